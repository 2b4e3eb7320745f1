theorem dX10_init_0 : decode cX10_init 0 = .ok (.aload_n 0, 1) := by decide +kernel
theorem dX10_init_1 : decode cX10_init 1 = .ok (.invokespecial 1, 3) := by decide +kernel
theorem dX10_init_4 : decode cX10_init 4 = .ok (.aload_n 0, 1) := by decide +kernel
theorem dX10_init_5 : decode cX10_init 5 = .ok (.bipush 24, 2) := by decide +kernel
theorem dX10_init_7 : decode cX10_init 7 = .ok (.newarray .int, 2) := by decide +kernel
theorem dX10_init_9 : decode cX10_init 9 = .ok (.putfield 7, 3) := by decide +kernel
theorem dX10_init_12 : decode cX10_init 12 = .ok (.aload_n 0, 1) := by decide +kernel
theorem dX10_init_13 : decode cX10_init 13 = .ok (.iconst 1, 1) := by decide +kernel
theorem dX10_init_14 : decode cX10_init 14 = .ok (.putfield 13, 3) := by decide +kernel
theorem dX10_init_17 : decode cX10_init 17 = .ok (.aload_n 0, 1) := by decide +kernel
theorem dX10_init_18 : decode cX10_init 18 = .ok (.bipush 24, 2) := by decide +kernel
theorem dX10_init_20 : decode cX10_init 20 = .ok (.newarray .int, 2) := by decide +kernel
theorem dX10_init_22 : decode cX10_init 22 = .ok (.putfield 17, 3) := by decide +kernel
theorem dX10_init_25 : decode cX10_init 25 = .ok (.aload_n 0, 1) := by decide +kernel
theorem dX10_init_26 : decode cX10_init 26 = .ok (.bipush 8, 2) := by decide +kernel
theorem dX10_init_28 : decode cX10_init 28 = .ok (.newarray .int, 2) := by decide +kernel
theorem dX10_init_30 : decode cX10_init 30 = .ok (.putfield 20, 3) := by decide +kernel
theorem dX10_init_33 : decode cX10_init 33 = .ok (.aload_n 0, 1) := by decide +kernel
theorem dX10_init_34 : decode cX10_init 34 = .ok (.sipush 192, 3) := by decide +kernel
theorem dX10_init_37 : decode cX10_init 37 = .ok (.newarray .int, 2) := by decide +kernel
theorem dX10_init_39 : decode cX10_init 39 = .ok (.putfield 23, 3) := by decide +kernel
theorem dX10_init_42 : decode cX10_init 42 = .ok (.aload_n 0, 1) := by decide +kernel
theorem dX10_init_43 : decode cX10_init 43 = .ok (.bipush 104, 2) := by decide +kernel
theorem dX10_init_45 : decode cX10_init 45 = .ok (.newarray .int, 2) := by decide +kernel
theorem dX10_init_47 : decode cX10_init 47 = .ok (.putfield 26, 3) := by decide +kernel
theorem dX10_init_50 : decode cX10_init 50 = .ok (.aload_n 0, 1) := by decide +kernel
theorem dX10_init_51 : decode cX10_init 51 = .ok (.bipush 104, 2) := by decide +kernel
theorem dX10_init_53 : decode cX10_init 53 = .ok (.newarray .int, 2) := by decide +kernel
theorem dX10_init_55 : decode cX10_init 55 = .ok (.putfield 29, 3) := by decide +kernel
theorem dX10_init_58 : decode cX10_init 58 = .ok (.aload_n 0, 1) := by decide +kernel
theorem dX10_init_59 : decode cX10_init 59 = .ok (.bipush 104, 2) := by decide +kernel
theorem dX10_init_61 : decode cX10_init 61 = .ok (.newarray .int, 2) := by decide +kernel
theorem dX10_init_63 : decode cX10_init 63 = .ok (.putfield 32, 3) := by decide +kernel
theorem dX10_init_66 : decode cX10_init 66 = .ok (.aload_n 0, 1) := by decide +kernel
theorem dX10_init_67 : decode cX10_init 67 = .ok (.bipush 104, 2) := by decide +kernel
theorem dX10_init_69 : decode cX10_init 69 = .ok (.newarray .boolean, 2) := by decide +kernel
theorem dX10_init_71 : decode cX10_init 71 = .ok (.putfield 35, 3) := by decide +kernel
theorem dX10_init_74 : decode cX10_init 74 = .ok (.aload_n 0, 1) := by decide +kernel
theorem dX10_init_75 : decode cX10_init 75 = .ok (.bipush 24, 2) := by decide +kernel
theorem dX10_init_77 : decode cX10_init 77 = .ok (.newarray .int, 2) := by decide +kernel
theorem dX10_init_79 : decode cX10_init 79 = .ok (.putfield 39, 3) := by decide +kernel
theorem dX10_init_82 : decode cX10_init 82 = .ok (.aload_n 0, 1) := by decide +kernel
theorem dX10_init_83 : decode cX10_init 83 = .ok (.sipush 576, 3) := by decide +kernel
theorem dX10_init_86 : decode cX10_init 86 = .ok (.newarray .int, 2) := by decide +kernel
theorem dX10_init_88 : decode cX10_init 88 = .ok (.putfield 42, 3) := by decide +kernel
theorem dX10_init_91 : decode cX10_init 91 = .ok (.aload_n 0, 1) := by decide +kernel
theorem dX10_init_92 : decode cX10_init 92 = .ok (.sipush 576, 3) := by decide +kernel
theorem dX10_init_95 : decode cX10_init 95 = .ok (.newarray .int, 2) := by decide +kernel
theorem dX10_init_97 : decode cX10_init 97 = .ok (.putfield 45, 3) := by decide +kernel
theorem dX10_init_100 : decode cX10_init 100 = .ok (.aload_n 0, 1) := by decide +kernel
theorem dX10_init_101 : decode cX10_init 101 = .ok (.bipush 8, 2) := by decide +kernel
theorem dX10_init_103 : decode cX10_init 103 = .ok (.newarray .int, 2) := by decide +kernel
theorem dX10_init_105 : decode cX10_init 105 = .ok (.putfield 48, 3) := by decide +kernel
theorem dX10_init_108 : decode cX10_init 108 = .ok (.aload_n 0, 1) := by decide +kernel
theorem dX10_init_109 : decode cX10_init 109 = .ok (.bipush 64, 2) := by decide +kernel
theorem dX10_init_111 : decode cX10_init 111 = .ok (.newarray .int, 2) := by decide +kernel
theorem dX10_init_113 : decode cX10_init 113 = .ok (.putfield 51, 3) := by decide +kernel
theorem dX10_init_116 : decode cX10_init 116 = .ok (.aload_n 0, 1) := by decide +kernel
theorem dX10_init_117 : decode cX10_init 117 = .ok (.bipush 8, 2) := by decide +kernel
theorem dX10_init_119 : decode cX10_init 119 = .ok (.newarray .int, 2) := by decide +kernel
theorem dX10_init_121 : decode cX10_init 121 = .ok (.putfield 54, 3) := by decide +kernel
theorem dX10_init_124 : decode cX10_init 124 = .ok (.aload_n 0, 1) := by decide +kernel
theorem dX10_init_125 : decode cX10_init 125 = .ok (.bipush 8, 2) := by decide +kernel
theorem dX10_init_127 : decode cX10_init 127 = .ok (.newarray .int, 2) := by decide +kernel
theorem dX10_init_129 : decode cX10_init 129 = .ok (.putfield 57, 3) := by decide +kernel
theorem dX10_init_132 : decode cX10_init 132 = .ok (.aload_n 0, 1) := by decide +kernel
theorem dX10_init_133 : decode cX10_init 133 = .ok (.bipush 8, 2) := by decide +kernel
theorem dX10_init_135 : decode cX10_init 135 = .ok (.newarray .int, 2) := by decide +kernel
theorem dX10_init_137 : decode cX10_init 137 = .ok (.putfield 60, 3) := by decide +kernel
theorem dX10_init_140 : decode cX10_init 140 = .ok (.aload_n 0, 1) := by decide +kernel
theorem dX10_init_141 : decode cX10_init 141 = .ok (.bipush 8, 2) := by decide +kernel
theorem dX10_init_143 : decode cX10_init 143 = .ok (.newarray .int, 2) := by decide +kernel
theorem dX10_init_145 : decode cX10_init 145 = .ok (.putfield 63, 3) := by decide +kernel
theorem dX10_init_148 : decode cX10_init 148 = .ok (.aload_n 0, 1) := by decide +kernel
theorem dX10_init_149 : decode cX10_init 149 = .ok (.iconst 4, 1) := by decide +kernel
theorem dX10_init_150 : decode cX10_init 150 = .ok (.newarray .int, 2) := by decide +kernel
theorem dX10_init_152 : decode cX10_init 152 = .ok (.putfield 66, 3) := by decide +kernel
theorem dX10_init_155 : decode cX10_init 155 = .ok (.aload_n 0, 1) := by decide +kernel
theorem dX10_init_156 : decode cX10_init 156 = .ok (.iconst 4, 1) := by decide +kernel
theorem dX10_init_157 : decode cX10_init 157 = .ok (.newarray .int, 2) := by decide +kernel
theorem dX10_init_159 : decode cX10_init 159 = .ok (.putfield 69, 3) := by decide +kernel
theorem dX10_init_162 : decode cX10_init 162 = .ok (.aload_n 0, 1) := by decide +kernel
theorem dX10_init_163 : decode cX10_init 163 = .ok (.bipush 32, 2) := by decide +kernel
theorem dX10_init_165 : decode cX10_init 165 = .ok (.newarray .boolean, 2) := by decide +kernel
theorem dX10_init_167 : decode cX10_init 167 = .ok (.putfield 72, 3) := by decide +kernel
theorem dX10_init_170 : decode cX10_init 170 = .ok (.aload_n 0, 1) := by decide +kernel
theorem dX10_init_171 : decode cX10_init 171 = .ok (.iconst 4, 1) := by decide +kernel
theorem dX10_init_172 : decode cX10_init 172 = .ok (.newarray .int, 2) := by decide +kernel
theorem dX10_init_174 : decode cX10_init 174 = .ok (.putfield 75, 3) := by decide +kernel
theorem dX10_init_177 : decode cX10_init 177 = .ok (.aload_n 0, 1) := by decide +kernel
theorem dX10_init_178 : decode cX10_init 178 = .ok (.iconst 4, 1) := by decide +kernel
theorem dX10_init_179 : decode cX10_init 179 = .ok (.newarray .int, 2) := by decide +kernel
theorem dX10_init_181 : decode cX10_init 181 = .ok (.putfield 78, 3) := by decide +kernel
theorem dX10_init_184 : decode cX10_init 184 = .ok (.aload_n 0, 1) := by decide +kernel
theorem dX10_init_185 : decode cX10_init 185 = .ok (.bipush 12, 2) := by decide +kernel
theorem dX10_init_187 : decode cX10_init 187 = .ok (.newarray .int, 2) := by decide +kernel
theorem dX10_init_189 : decode cX10_init 189 = .ok (.putfield 81, 3) := by decide +kernel
theorem dX10_init_192 : decode cX10_init 192 = .ok (.aload_n 0, 1) := by decide +kernel
theorem dX10_init_193 : decode cX10_init 193 = .ok (.bipush 12, 2) := by decide +kernel
theorem dX10_init_195 : decode cX10_init 195 = .ok (.newarray .int, 2) := by decide +kernel
theorem dX10_init_197 : decode cX10_init 197 = .ok (.putfield 84, 3) := by decide +kernel
theorem dX10_init_200 : decode cX10_init 200 = .ok (.aload_n 0, 1) := by decide +kernel
theorem dX10_init_201 : decode cX10_init 201 = .ok (.bipush 6, 2) := by decide +kernel
theorem dX10_init_203 : decode cX10_init 203 = .ok (.newarray .int, 2) := by decide +kernel
theorem dX10_init_205 : decode cX10_init 205 = .ok (.putfield 87, 3) := by decide +kernel
theorem dX10_init_208 : decode cX10_init 208 = .ok (.aload_n 0, 1) := by decide +kernel
theorem dX10_init_209 : decode cX10_init 209 = .ok (.bipush 24, 2) := by decide +kernel
theorem dX10_init_211 : decode cX10_init 211 = .ok (.newarray .int, 2) := by decide +kernel
theorem dX10_init_213 : decode cX10_init 213 = .ok (.putfield 90, 3) := by decide +kernel
theorem dX10_init_216 : decode cX10_init 216 = .ok (.aload_n 0, 1) := by decide +kernel
theorem dX10_init_217 : decode cX10_init 217 = .ok (.bipush 104, 2) := by decide +kernel
theorem dX10_init_219 : decode cX10_init 219 = .ok (.newarray .int, 2) := by decide +kernel
theorem dX10_init_221 : decode cX10_init 221 = .ok (.putfield 93, 3) := by decide +kernel
theorem dX10_init_224 : decode cX10_init 224 = .ok (.aload_n 0, 1) := by decide +kernel
theorem dX10_init_225 : decode cX10_init 225 = .ok (.bipush 104, 2) := by decide +kernel
theorem dX10_init_227 : decode cX10_init 227 = .ok (.newarray .int, 2) := by decide +kernel
theorem dX10_init_229 : decode cX10_init 229 = .ok (.putfield 96, 3) := by decide +kernel
theorem dX10_init_232 : decode cX10_init 232 = .ok (.aload_n 0, 1) := by decide +kernel
theorem dX10_init_233 : decode cX10_init 233 = .ok (.sipush 28672, 3) := by decide +kernel
theorem dX10_init_236 : decode cX10_init 236 = .ok (.newarray .boolean, 2) := by decide +kernel
theorem dX10_init_238 : decode cX10_init 238 = .ok (.putfield 99, 3) := by decide +kernel
theorem dX10_init_241 : decode cX10_init 241 = .ok (.aload_n 0, 1) := by decide +kernel
theorem dX10_init_242 : decode cX10_init 242 = .ok (.bipush 6, 2) := by decide +kernel
theorem dX10_init_244 : decode cX10_init 244 = .ok (.newarray .int, 2) := by decide +kernel
theorem dX10_init_246 : decode cX10_init 246 = .ok (.putfield 102, 3) := by decide +kernel
theorem dX10_init_249 : decode cX10_init 249 = .ok (.aload_n 0, 1) := by decide +kernel
theorem dX10_init_250 : decode cX10_init 250 = .ok (.sipush 160, 3) := by decide +kernel
theorem dX10_init_253 : decode cX10_init 253 = .ok (.newarray .int, 2) := by decide +kernel
theorem dX10_init_255 : decode cX10_init 255 = .ok (.putfield 105, 3) := by decide +kernel
theorem dX10_init_258 : decode cX10_init 258 = .ok (.aload_n 0, 1) := by decide +kernel
theorem dX10_init_259 : decode cX10_init 259 = .ok (.bipush 20, 2) := by decide +kernel
theorem dX10_init_261 : decode cX10_init 261 = .ok (.newarray .int, 2) := by decide +kernel
theorem dX10_init_263 : decode cX10_init 263 = .ok (.putfield 108, 3) := by decide +kernel
theorem dX10_init_266 : decode cX10_init 266 = .ok (.aload_n 0, 1) := by decide +kernel
theorem dX10_init_267 : decode cX10_init 267 = .ok (.bipush 20, 2) := by decide +kernel
theorem dX10_init_269 : decode cX10_init 269 = .ok (.newarray .int, 2) := by decide +kernel
theorem dX10_init_271 : decode cX10_init 271 = .ok (.putfield 111, 3) := by decide +kernel
theorem dX10_init_274 : decode cX10_init 274 = .ok (.aload_n 0, 1) := by decide +kernel
theorem dX10_init_275 : decode cX10_init 275 = .ok (.bipush 20, 2) := by decide +kernel
theorem dX10_init_277 : decode cX10_init 277 = .ok (.newarray .int, 2) := by decide +kernel
theorem dX10_init_279 : decode cX10_init 279 = .ok (.putfield 114, 3) := by decide +kernel
theorem dX10_init_282 : decode cX10_init 282 = .ok (.aload_n 0, 1) := by decide +kernel
theorem dX10_init_283 : decode cX10_init 283 = .ok (.bipush 20, 2) := by decide +kernel
theorem dX10_init_285 : decode cX10_init 285 = .ok (.newarray .int, 2) := by decide +kernel
theorem dX10_init_287 : decode cX10_init 287 = .ok (.putfield 117, 3) := by decide +kernel
theorem dX10_init_290 : decode cX10_init 290 = .ok (.aload_n 0, 1) := by decide +kernel
theorem dX10_init_291 : decode cX10_init 291 = .ok (.bipush 20, 2) := by decide +kernel
theorem dX10_init_293 : decode cX10_init 293 = .ok (.newarray .int, 2) := by decide +kernel
theorem dX10_init_295 : decode cX10_init 295 = .ok (.putfield 120, 3) := by decide +kernel
theorem dX10_init_298 : decode cX10_init 298 = .ok (.aload_n 0, 1) := by decide +kernel
theorem dX10_init_299 : decode cX10_init 299 = .ok (.bipush 20, 2) := by decide +kernel
theorem dX10_init_301 : decode cX10_init 301 = .ok (.newarray .int, 2) := by decide +kernel
theorem dX10_init_303 : decode cX10_init 303 = .ok (.putfield 123, 3) := by decide +kernel
theorem dX10_init_306 : decode cX10_init 306 = .ok (.aload_n 0, 1) := by decide +kernel
theorem dX10_init_307 : decode cX10_init 307 = .ok (.iconst 4, 1) := by decide +kernel
theorem dX10_init_308 : decode cX10_init 308 = .ok (.newarray .int, 2) := by decide +kernel
theorem dX10_init_310 : decode cX10_init 310 = .ok (.putfield 126, 3) := by decide +kernel
theorem dX10_init_313 : decode cX10_init 313 = .ok (.aload_n 0, 1) := by decide +kernel
theorem dX10_init_314 : decode cX10_init 314 = .ok (.iconst 4, 1) := by decide +kernel
theorem dX10_init_315 : decode cX10_init 315 = .ok (.newarray .int, 2) := by decide +kernel
theorem dX10_init_317 : decode cX10_init 317 = .ok (.putfield 129, 3) := by decide +kernel
theorem dX10_init_320 : decode cX10_init 320 = .ok (.aload_n 0, 1) := by decide +kernel
theorem dX10_init_321 : decode cX10_init 321 = .ok (.sipush 240, 3) := by decide +kernel
theorem dX10_init_324 : decode cX10_init 324 = .ok (.newarray .int, 2) := by decide +kernel
theorem dX10_init_326 : decode cX10_init 326 = .ok (.putfield 132, 3) := by decide +kernel
theorem dX10_init_329 : decode cX10_init 329 = .ok (.iconst 0, 1) := by decide +kernel
theorem dX10_init_330 : decode cX10_init 330 = .ok (.istore_n 1, 1) := by decide +kernel
theorem dX10_init_331 : decode cX10_init 331 = .ok (.iload_n 1, 1) := by decide +kernel
theorem dX10_init_332 : decode cX10_init 332 = .ok (.iconst 4, 1) := by decide +kernel
theorem dX10_init_333 : decode cX10_init 333 = .ok (.if_icmp .ge 17, 3) := by decide +kernel
theorem dX10_init_336 : decode cX10_init 336 = .ok (.aload_n 0, 1) := by decide +kernel
theorem dX10_init_337 : decode cX10_init 337 = .ok (.getfield 126, 3) := by decide +kernel
theorem dX10_init_340 : decode cX10_init 340 = .ok (.iload_n 1, 1) := by decide +kernel
theorem dX10_init_341 : decode cX10_init 341 = .ok (.bipush (-4), 2) := by decide +kernel
theorem dX10_init_343 : decode cX10_init 343 = .ok (.iastore, 1) := by decide +kernel
theorem dX10_init_344 : decode cX10_init 344 = .ok (.iinc 1 1, 3) := by decide +kernel
theorem dX10_init_347 : decode cX10_init 347 = .ok (.goto (-16), 3) := by decide +kernel
theorem dX10_init_350 : decode cX10_init 350 = .ok (.return_, 1) := by decide +kernel
theorem dX10_in_0 : decode cX10_in 0 = .ok (.lload_n 0, 1) := by decide +kernel
theorem dX10_in_1 : decode cX10_in 1 = .ok (.lload_n 2, 1) := by decide +kernel
theorem dX10_in_2 : decode cX10_in 2 = .ok (.lcmp, 1) := by decide +kernel
theorem dX10_in_3 : decode cX10_in 3 = .ok (.ifCond .lt 14, 3) := by decide +kernel
theorem dX10_in_6 : decode cX10_in 6 = .ok (.lload_n 0, 1) := by decide +kernel
theorem dX10_in_7 : decode cX10_in 7 = .ok (.lload 4, 2) := by decide +kernel
theorem dX10_in_9 : decode cX10_in 9 = .ok (.lcmp, 1) := by decide +kernel
theorem dX10_in_10 : decode cX10_in 10 = .ok (.ifCond .gt 7, 3) := by decide +kernel
theorem dX10_in_13 : decode cX10_in 13 = .ok (.iconst 1, 1) := by decide +kernel
theorem dX10_in_14 : decode cX10_in 14 = .ok (.goto 4, 3) := by decide +kernel
theorem dX10_in_17 : decode cX10_in 17 = .ok (.iconst 0, 1) := by decide +kernel
theorem dX10_in_18 : decode cX10_in 18 = .ok (.ireturn, 1) := by decide +kernel
theorem dX10_bits_0 : decode cX10_bits 0 = .ok (.iconst 0, 1) := by decide +kernel
theorem dX10_bits_1 : decode cX10_bits 1 = .ok (.istore_n 1, 1) := by decide +kernel
theorem dX10_bits_2 : decode cX10_bits 2 = .ok (.iconst 0, 1) := by decide +kernel
theorem dX10_bits_3 : decode cX10_bits 3 = .ok (.istore_n 2, 1) := by decide +kernel
theorem dX10_bits_4 : decode cX10_bits 4 = .ok (.iload_n 2, 1) := by decide +kernel
theorem dX10_bits_5 : decode cX10_bits 5 = .ok (.bipush 24, 2) := by decide +kernel
theorem dX10_bits_7 : decode cX10_bits 7 = .ok (.if_icmp .ge 17, 3) := by decide +kernel
theorem dX10_bits_10 : decode cX10_bits 10 = .ok (.iload_n 1, 1) := by decide +kernel
theorem dX10_bits_11 : decode cX10_bits 11 = .ok (.iload_n 0, 1) := by decide +kernel
theorem dX10_bits_12 : decode cX10_bits 12 = .ok (.iload_n 2, 1) := by decide +kernel
theorem dX10_bits_13 : decode cX10_bits 13 = .ok (.ishr, 1) := by decide +kernel
theorem dX10_bits_14 : decode cX10_bits 14 = .ok (.iconst 1, 1) := by decide +kernel
theorem dX10_bits_15 : decode cX10_bits 15 = .ok (.iand, 1) := by decide +kernel
theorem dX10_bits_16 : decode cX10_bits 16 = .ok (.iadd, 1) := by decide +kernel
theorem dX10_bits_17 : decode cX10_bits 17 = .ok (.istore_n 1, 1) := by decide +kernel
theorem dX10_bits_18 : decode cX10_bits 18 = .ok (.iinc 2 1, 3) := by decide +kernel
theorem dX10_bits_21 : decode cX10_bits 21 = .ok (.goto (-17), 3) := by decide +kernel
theorem dX10_bits_24 : decode cX10_bits 24 = .ok (.iload_n 1, 1) := by decide +kernel
theorem dX10_bits_25 : decode cX10_bits 25 = .ok (.ireturn, 1) := by decide +kernel
theorem dX10_isForm_0 : decode cX10_isForm 0 = .ok (.iload_n 1, 1) := by decide +kernel
theorem dX10_isForm_1 : decode cX10_isForm 1 = .ok (.i2l, 1) := by decide +kernel
theorem dX10_isForm_2 : decode cX10_isForm 2 = .ok (.lconst 0, 1) := by decide +kernel
theorem dX10_isForm_3 : decode cX10_isForm 3 = .ok (.aload_n 0, 1) := by decide +kernel
theorem dX10_isForm_4 : decode cX10_isForm 4 = .ok (.getfield 135, 3) := by decide +kernel
theorem dX10_isForm_7 : decode cX10_isForm 7 = .ok (.iconst 1, 1) := by decide +kernel
theorem dX10_isForm_8 : decode cX10_isForm 8 = .ok (.isub, 1) := by decide +kernel
theorem dX10_isForm_9 : decode cX10_isForm 9 = .ok (.i2l, 1) := by decide +kernel
theorem dX10_isForm_10 : decode cX10_isForm 10 = .ok (.invokestatic 138, 3) := by decide +kernel
theorem dX10_isForm_13 : decode cX10_isForm 13 = .ok (.ireturn, 1) := by decide +kernel
theorem dX10_form_0 : decode cX10_form 0 = .ok (.iload_n 1, 1) := by decide +kernel
theorem dX10_form_1 : decode cX10_form 1 = .ok (.i2l, 1) := by decide +kernel
theorem dX10_form_2 : decode cX10_form 2 = .ok (.lconst 0, 1) := by decide +kernel
theorem dX10_form_3 : decode cX10_form 3 = .ok (.ldc2_w 142, 3) := by decide +kernel
theorem dX10_form_6 : decode cX10_form 6 = .ok (.invokestatic 138, 3) := by decide +kernel
theorem dX10_form_9 : decode cX10_form 9 = .ok (.ifCond .ne 5, 3) := by decide +kernel
theorem dX10_form_12 : decode cX10_form 12 = .ok (.iconst (-1), 1) := by decide +kernel
theorem dX10_form_13 : decode cX10_form 13 = .ok (.ireturn, 1) := by decide +kernel
theorem dX10_form_14 : decode cX10_form 14 = .ok (.aload_n 0, 1) := by decide +kernel
theorem dX10_form_15 : decode cX10_form 15 = .ok (.getfield 135, 3) := by decide +kernel
theorem dX10_form_18 : decode cX10_form 18 = .ok (.bipush 24, 2) := by decide +kernel
theorem dX10_form_20 : decode cX10_form 20 = .ok (.if_icmp .ne 6, 3) := by decide +kernel
theorem dX10_form_23 : decode cX10_form 23 = .ok (.bipush (-3), 2) := by decide +kernel
theorem dX10_form_25 : decode cX10_form 25 = .ok (.ireturn, 1) := by decide +kernel
theorem dX10_form_26 : decode cX10_form 26 = .ok (.aload_n 0, 1) := by decide +kernel
theorem dX10_form_27 : decode cX10_form 27 = .ok (.getfield 7, 3) := by decide +kernel
theorem dX10_form_30 : decode cX10_form 30 = .ok (.aload_n 0, 1) := by decide +kernel
theorem dX10_form_31 : decode cX10_form 31 = .ok (.getfield 135, 3) := by decide +kernel
theorem dX10_form_34 : decode cX10_form 34 = .ok (.iload_n 1, 1) := by decide +kernel
theorem dX10_form_35 : decode cX10_form 35 = .ok (.iastore, 1) := by decide +kernel
theorem dX10_form_36 : decode cX10_form 36 = .ok (.aload_n 0, 1) := by decide +kernel
theorem dX10_form_37 : decode cX10_form 37 = .ok (.dup, 1) := by decide +kernel
theorem dX10_form_38 : decode cX10_form 38 = .ok (.getfield 135, 3) := by decide +kernel
theorem dX10_form_41 : decode cX10_form 41 = .ok (.iconst 1, 1) := by decide +kernel
theorem dX10_form_42 : decode cX10_form 42 = .ok (.iadd, 1) := by decide +kernel
theorem dX10_form_43 : decode cX10_form 43 = .ok (.putfield 135, 3) := by decide +kernel
theorem dX10_form_46 : decode cX10_form 46 = .ok (.aload_n 0, 1) := by decide +kernel
theorem dX10_form_47 : decode cX10_form 47 = .ok (.getfield 135, 3) := by decide +kernel
theorem dX10_form_50 : decode cX10_form 50 = .ok (.iconst 1, 1) := by decide +kernel
theorem dX10_form_51 : decode cX10_form 51 = .ok (.isub, 1) := by decide +kernel
theorem dX10_form_52 : decode cX10_form 52 = .ok (.ireturn, 1) := by decide +kernel
theorem dX10_likeness_0 : decode cX10_likeness 0 = .ok (.iload_n 1, 1) := by decide +kernel
theorem dX10_likeness_1 : decode cX10_likeness 1 = .ok (.i2l, 1) := by decide +kernel
theorem dX10_likeness_2 : decode cX10_likeness 2 = .ok (.lconst 0, 1) := by decide +kernel
theorem dX10_likeness_3 : decode cX10_likeness 3 = .ok (.ldc2_w 144, 3) := by decide +kernel
theorem dX10_likeness_6 : decode cX10_likeness 6 = .ok (.invokestatic 138, 3) := by decide +kernel
theorem dX10_likeness_9 : decode cX10_likeness 9 = .ok (.ifCond .ne 5, 3) := by decide +kernel
theorem dX10_likeness_12 : decode cX10_likeness 12 = .ok (.iconst (-1), 1) := by decide +kernel
theorem dX10_likeness_13 : decode cX10_likeness 13 = .ok (.ireturn, 1) := by decide +kernel
theorem dX10_likeness_14 : decode cX10_likeness 14 = .ok (.aload_n 0, 1) := by decide +kernel
theorem dX10_likeness_15 : decode cX10_likeness 15 = .ok (.getfield 13, 3) := by decide +kernel
theorem dX10_likeness_18 : decode cX10_likeness 18 = .ok (.istore_n 2, 1) := by decide +kernel
theorem dX10_likeness_19 : decode cX10_likeness 19 = .ok (.aload_n 0, 1) := by decide +kernel
theorem dX10_likeness_20 : decode cX10_likeness 20 = .ok (.iload_n 1, 1) := by decide +kernel
theorem dX10_likeness_21 : decode cX10_likeness 21 = .ok (.putfield 13, 3) := by decide +kernel
theorem dX10_likeness_24 : decode cX10_likeness 24 = .ok (.iload_n 2, 1) := by decide +kernel
theorem dX10_likeness_25 : decode cX10_likeness 25 = .ok (.ireturn, 1) := by decide +kernel
theorem dX10_findSigns_0 : decode cX10_findSigns 0 = .ok (.iconst 0, 1) := by decide +kernel
theorem dX10_findSigns_1 : decode cX10_findSigns 1 = .ok (.istore_n 2, 1) := by decide +kernel
theorem dX10_findSigns_2 : decode cX10_findSigns 2 = .ok (.iload_n 2, 1) := by decide +kernel
theorem dX10_findSigns_3 : decode cX10_findSigns 3 = .ok (.aload_n 0, 1) := by decide +kernel
theorem dX10_findSigns_4 : decode cX10_findSigns 4 = .ok (.getfield 135, 3) := by decide +kernel
theorem dX10_findSigns_7 : decode cX10_findSigns 7 = .ok (.if_icmp .ge 16, 3) := by decide +kernel
theorem dX10_findSigns_10 : decode cX10_findSigns 10 = .ok (.aload_n 0, 1) := by decide +kernel
theorem dX10_findSigns_11 : decode cX10_findSigns 11 = .ok (.getfield 17, 3) := by decide +kernel
theorem dX10_findSigns_14 : decode cX10_findSigns 14 = .ok (.iload_n 2, 1) := by decide +kernel
theorem dX10_findSigns_15 : decode cX10_findSigns 15 = .ok (.iload_n 2, 1) := by decide +kernel
theorem dX10_findSigns_16 : decode cX10_findSigns 16 = .ok (.iastore, 1) := by decide +kernel
theorem dX10_findSigns_17 : decode cX10_findSigns 17 = .ok (.iinc 2 1, 3) := by decide +kernel
theorem dX10_findSigns_20 : decode cX10_findSigns 20 = .ok (.goto (-18), 3) := by decide +kernel
theorem dX10_findSigns_23 : decode cX10_findSigns 23 = .ok (.iconst 0, 1) := by decide +kernel
theorem dX10_findSigns_24 : decode cX10_findSigns 24 = .ok (.istore_n 2, 1) := by decide +kernel
theorem dX10_findSigns_25 : decode cX10_findSigns 25 = .ok (.iload_n 2, 1) := by decide +kernel
theorem dX10_findSigns_26 : decode cX10_findSigns 26 = .ok (.aload_n 0, 1) := by decide +kernel
theorem dX10_findSigns_27 : decode cX10_findSigns 27 = .ok (.getfield 135, 3) := by decide +kernel
theorem dX10_findSigns_30 : decode cX10_findSigns 30 = .ok (.if_icmp .ge 156, 3) := by decide +kernel
theorem dX10_findSigns_33 : decode cX10_findSigns 33 = .ok (.iconst 0, 1) := by decide +kernel
theorem dX10_findSigns_34 : decode cX10_findSigns 34 = .ok (.istore_n 3, 1) := by decide +kernel
theorem dX10_findSigns_35 : decode cX10_findSigns 35 = .ok (.iload_n 3, 1) := by decide +kernel
theorem dX10_findSigns_36 : decode cX10_findSigns 36 = .ok (.iload_n 2, 1) := by decide +kernel
theorem dX10_findSigns_37 : decode cX10_findSigns 37 = .ok (.if_icmp .ge 143, 3) := by decide +kernel
theorem dX10_findSigns_40 : decode cX10_findSigns 40 = .ok (.aload_n 0, 1) := by decide +kernel
theorem dX10_findSigns_41 : decode cX10_findSigns 41 = .ok (.getfield 7, 3) := by decide +kernel
theorem dX10_findSigns_44 : decode cX10_findSigns 44 = .ok (.iload_n 2, 1) := by decide +kernel
theorem dX10_findSigns_45 : decode cX10_findSigns 45 = .ok (.iaload, 1) := by decide +kernel
theorem dX10_findSigns_46 : decode cX10_findSigns 46 = .ok (.aload_n 0, 1) := by decide +kernel
theorem dX10_findSigns_47 : decode cX10_findSigns 47 = .ok (.getfield 7, 3) := by decide +kernel
theorem dX10_findSigns_50 : decode cX10_findSigns 50 = .ok (.iload_n 3, 1) := by decide +kernel
theorem dX10_findSigns_51 : decode cX10_findSigns 51 = .ok (.iaload, 1) := by decide +kernel
theorem dX10_findSigns_52 : decode cX10_findSigns 52 = .ok (.ixor, 1) := by decide +kernel
theorem dX10_findSigns_53 : decode cX10_findSigns 53 = .ok (.invokestatic 146, 3) := by decide +kernel
theorem dX10_findSigns_56 : decode cX10_findSigns 56 = .ok (.iload_n 1, 1) := by decide +kernel
theorem dX10_findSigns_57 : decode cX10_findSigns 57 = .ok (.if_icmp .gt 117, 3) := by decide +kernel
theorem dX10_findSigns_60 : decode cX10_findSigns 60 = .ok (.aload_n 0, 1) := by decide +kernel
theorem dX10_findSigns_61 : decode cX10_findSigns 61 = .ok (.getfield 17, 3) := by decide +kernel
theorem dX10_findSigns_64 : decode cX10_findSigns 64 = .ok (.iload_n 2, 1) := by decide +kernel
theorem dX10_findSigns_65 : decode cX10_findSigns 65 = .ok (.iaload, 1) := by decide +kernel
theorem dX10_findSigns_66 : decode cX10_findSigns 66 = .ok (.aload_n 0, 1) := by decide +kernel
theorem dX10_findSigns_67 : decode cX10_findSigns 67 = .ok (.getfield 17, 3) := by decide +kernel
theorem dX10_findSigns_70 : decode cX10_findSigns 70 = .ok (.iload_n 3, 1) := by decide +kernel
theorem dX10_findSigns_71 : decode cX10_findSigns 71 = .ok (.iaload, 1) := by decide +kernel
theorem dX10_findSigns_72 : decode cX10_findSigns 72 = .ok (.if_icmp .eq 102, 3) := by decide +kernel
theorem dX10_findSigns_75 : decode cX10_findSigns 75 = .ok (.aload_n 0, 1) := by decide +kernel
theorem dX10_findSigns_76 : decode cX10_findSigns 76 = .ok (.getfield 17, 3) := by decide +kernel
theorem dX10_findSigns_79 : decode cX10_findSigns 79 = .ok (.iload_n 2, 1) := by decide +kernel
theorem dX10_findSigns_80 : decode cX10_findSigns 80 = .ok (.iaload, 1) := by decide +kernel
theorem dX10_findSigns_81 : decode cX10_findSigns 81 = .ok (.aload_n 0, 1) := by decide +kernel
theorem dX10_findSigns_82 : decode cX10_findSigns 82 = .ok (.getfield 17, 3) := by decide +kernel
theorem dX10_findSigns_85 : decode cX10_findSigns 85 = .ok (.iload_n 3, 1) := by decide +kernel
theorem dX10_findSigns_86 : decode cX10_findSigns 86 = .ok (.iaload, 1) := by decide +kernel
theorem dX10_findSigns_87 : decode cX10_findSigns 87 = .ok (.if_icmp .ge 12, 3) := by decide +kernel
theorem dX10_findSigns_90 : decode cX10_findSigns 90 = .ok (.aload_n 0, 1) := by decide +kernel
theorem dX10_findSigns_91 : decode cX10_findSigns 91 = .ok (.getfield 17, 3) := by decide +kernel
theorem dX10_findSigns_94 : decode cX10_findSigns 94 = .ok (.iload_n 2, 1) := by decide +kernel
theorem dX10_findSigns_95 : decode cX10_findSigns 95 = .ok (.iaload, 1) := by decide +kernel
theorem dX10_findSigns_96 : decode cX10_findSigns 96 = .ok (.goto 9, 3) := by decide +kernel
theorem dX10_findSigns_99 : decode cX10_findSigns 99 = .ok (.aload_n 0, 1) := by decide +kernel
theorem dX10_findSigns_100 : decode cX10_findSigns 100 = .ok (.getfield 17, 3) := by decide +kernel
theorem dX10_findSigns_103 : decode cX10_findSigns 103 = .ok (.iload_n 3, 1) := by decide +kernel
theorem dX10_findSigns_104 : decode cX10_findSigns 104 = .ok (.iaload, 1) := by decide +kernel
theorem dX10_findSigns_105 : decode cX10_findSigns 105 = .ok (.istore 4, 2) := by decide +kernel
theorem dX10_findSigns_107 : decode cX10_findSigns 107 = .ok (.aload_n 0, 1) := by decide +kernel
theorem dX10_findSigns_108 : decode cX10_findSigns 108 = .ok (.getfield 17, 3) := by decide +kernel
theorem dX10_findSigns_111 : decode cX10_findSigns 111 = .ok (.iload_n 2, 1) := by decide +kernel
theorem dX10_findSigns_112 : decode cX10_findSigns 112 = .ok (.iaload, 1) := by decide +kernel
theorem dX10_findSigns_113 : decode cX10_findSigns 113 = .ok (.aload_n 0, 1) := by decide +kernel
theorem dX10_findSigns_114 : decode cX10_findSigns 114 = .ok (.getfield 17, 3) := by decide +kernel
theorem dX10_findSigns_117 : decode cX10_findSigns 117 = .ok (.iload_n 3, 1) := by decide +kernel
theorem dX10_findSigns_118 : decode cX10_findSigns 118 = .ok (.iaload, 1) := by decide +kernel
theorem dX10_findSigns_119 : decode cX10_findSigns 119 = .ok (.iadd, 1) := by decide +kernel
theorem dX10_findSigns_120 : decode cX10_findSigns 120 = .ok (.iload 4, 2) := by decide +kernel
theorem dX10_findSigns_122 : decode cX10_findSigns 122 = .ok (.isub, 1) := by decide +kernel
theorem dX10_findSigns_123 : decode cX10_findSigns 123 = .ok (.istore 5, 2) := by decide +kernel
theorem dX10_findSigns_125 : decode cX10_findSigns 125 = .ok (.iconst 0, 1) := by decide +kernel
theorem dX10_findSigns_126 : decode cX10_findSigns 126 = .ok (.istore 6, 2) := by decide +kernel
theorem dX10_findSigns_128 : decode cX10_findSigns 128 = .ok (.iload 6, 2) := by decide +kernel
theorem dX10_findSigns_130 : decode cX10_findSigns 130 = .ok (.aload_n 0, 1) := by decide +kernel
theorem dX10_findSigns_131 : decode cX10_findSigns 131 = .ok (.getfield 135, 3) := by decide +kernel
theorem dX10_findSigns_134 : decode cX10_findSigns 134 = .ok (.if_icmp .ge 40, 3) := by decide +kernel
theorem dX10_findSigns_137 : decode cX10_findSigns 137 = .ok (.aload_n 0, 1) := by decide +kernel
theorem dX10_findSigns_138 : decode cX10_findSigns 138 = .ok (.getfield 17, 3) := by decide +kernel
theorem dX10_findSigns_141 : decode cX10_findSigns 141 = .ok (.iload 6, 2) := by decide +kernel
theorem dX10_findSigns_143 : decode cX10_findSigns 143 = .ok (.aload_n 0, 1) := by decide +kernel
theorem dX10_findSigns_144 : decode cX10_findSigns 144 = .ok (.getfield 17, 3) := by decide +kernel
theorem dX10_findSigns_147 : decode cX10_findSigns 147 = .ok (.iload 6, 2) := by decide +kernel
theorem dX10_findSigns_149 : decode cX10_findSigns 149 = .ok (.iaload, 1) := by decide +kernel
theorem dX10_findSigns_150 : decode cX10_findSigns 150 = .ok (.iload 5, 2) := by decide +kernel
theorem dX10_findSigns_152 : decode cX10_findSigns 152 = .ok (.if_icmp .ne 8, 3) := by decide +kernel
theorem dX10_findSigns_155 : decode cX10_findSigns 155 = .ok (.iload 4, 2) := by decide +kernel
theorem dX10_findSigns_157 : decode cX10_findSigns 157 = .ok (.goto 10, 3) := by decide +kernel
theorem dX10_findSigns_160 : decode cX10_findSigns 160 = .ok (.aload_n 0, 1) := by decide +kernel
theorem dX10_findSigns_161 : decode cX10_findSigns 161 = .ok (.getfield 17, 3) := by decide +kernel
theorem dX10_findSigns_164 : decode cX10_findSigns 164 = .ok (.iload 6, 2) := by decide +kernel
theorem dX10_findSigns_166 : decode cX10_findSigns 166 = .ok (.iaload, 1) := by decide +kernel
theorem dX10_findSigns_167 : decode cX10_findSigns 167 = .ok (.iastore, 1) := by decide +kernel
theorem dX10_findSigns_168 : decode cX10_findSigns 168 = .ok (.iinc 6 1, 3) := by decide +kernel
theorem dX10_findSigns_171 : decode cX10_findSigns 171 = .ok (.goto (-43), 3) := by decide +kernel
theorem dX10_findSigns_174 : decode cX10_findSigns 174 = .ok (.iinc 3 1, 3) := by decide +kernel
theorem dX10_findSigns_177 : decode cX10_findSigns 177 = .ok (.goto (-142), 3) := by decide +kernel
theorem dX10_findSigns_180 : decode cX10_findSigns 180 = .ok (.iinc 2 1, 3) := by decide +kernel
theorem dX10_findSigns_183 : decode cX10_findSigns 183 = .ok (.goto (-158), 3) := by decide +kernel
theorem dX10_findSigns_186 : decode cX10_findSigns 186 = .ok (.return_, 1) := by decide +kernel
theorem dX10_signMany_0 : decode cX10_signMany 0 = .ok (.iconst 0, 1) := by decide +kernel
theorem dX10_signMany_1 : decode cX10_signMany 1 = .ok (.istore_n 1, 1) := by decide +kernel
theorem dX10_signMany_2 : decode cX10_signMany 2 = .ok (.iconst 0, 1) := by decide +kernel
theorem dX10_signMany_3 : decode cX10_signMany 3 = .ok (.istore_n 2, 1) := by decide +kernel
theorem dX10_signMany_4 : decode cX10_signMany 4 = .ok (.iload_n 2, 1) := by decide +kernel
theorem dX10_signMany_5 : decode cX10_signMany 5 = .ok (.aload_n 0, 1) := by decide +kernel
theorem dX10_signMany_6 : decode cX10_signMany 6 = .ok (.getfield 135, 3) := by decide +kernel
theorem dX10_signMany_9 : decode cX10_signMany 9 = .ok (.if_icmp .ge 27, 3) := by decide +kernel
theorem dX10_signMany_12 : decode cX10_signMany 12 = .ok (.iload_n 1, 1) := by decide +kernel
theorem dX10_signMany_13 : decode cX10_signMany 13 = .ok (.aload_n 0, 1) := by decide +kernel
theorem dX10_signMany_14 : decode cX10_signMany 14 = .ok (.getfield 17, 3) := by decide +kernel
theorem dX10_signMany_17 : decode cX10_signMany 17 = .ok (.iload_n 2, 1) := by decide +kernel
theorem dX10_signMany_18 : decode cX10_signMany 18 = .ok (.iaload, 1) := by decide +kernel
theorem dX10_signMany_19 : decode cX10_signMany 19 = .ok (.iload_n 2, 1) := by decide +kernel
theorem dX10_signMany_20 : decode cX10_signMany 20 = .ok (.if_icmp .ne 7, 3) := by decide +kernel
theorem dX10_signMany_23 : decode cX10_signMany 23 = .ok (.iconst 1, 1) := by decide +kernel
theorem dX10_signMany_24 : decode cX10_signMany 24 = .ok (.goto 4, 3) := by decide +kernel
theorem dX10_signMany_27 : decode cX10_signMany 27 = .ok (.iconst 0, 1) := by decide +kernel
theorem dX10_signMany_28 : decode cX10_signMany 28 = .ok (.iadd, 1) := by decide +kernel
theorem dX10_signMany_29 : decode cX10_signMany 29 = .ok (.istore_n 1, 1) := by decide +kernel
theorem dX10_signMany_30 : decode cX10_signMany 30 = .ok (.iinc 2 1, 3) := by decide +kernel
theorem dX10_signMany_33 : decode cX10_signMany 33 = .ok (.goto (-29), 3) := by decide +kernel
theorem dX10_signMany_36 : decode cX10_signMany 36 = .ok (.iload_n 1, 1) := by decide +kernel
theorem dX10_signMany_37 : decode cX10_signMany 37 = .ok (.ireturn, 1) := by decide +kernel
theorem dX10_sign_0 : decode cX10_sign 0 = .ok (.aload_n 0, 1) := by decide +kernel
theorem dX10_sign_1 : decode cX10_sign 1 = .ok (.aload_n 0, 1) := by decide +kernel
theorem dX10_sign_2 : decode cX10_sign 2 = .ok (.getfield 13, 3) := by decide +kernel
theorem dX10_sign_5 : decode cX10_sign 5 = .ok (.invokevirtual 150, 3) := by decide +kernel
theorem dX10_sign_8 : decode cX10_sign 8 = .ok (.aload_n 0, 1) := by decide +kernel
theorem dX10_sign_9 : decode cX10_sign 9 = .ok (.iload_n 1, 1) := by decide +kernel
theorem dX10_sign_10 : decode cX10_sign 10 = .ok (.invokevirtual 154, 3) := by decide +kernel
theorem dX10_sign_13 : decode cX10_sign 13 = .ok (.ifCond .eq 12, 3) := by decide +kernel
theorem dX10_sign_16 : decode cX10_sign 16 = .ok (.aload_n 0, 1) := by decide +kernel
theorem dX10_sign_17 : decode cX10_sign 17 = .ok (.getfield 17, 3) := by decide +kernel
theorem dX10_sign_20 : decode cX10_sign 20 = .ok (.iload_n 1, 1) := by decide +kernel
theorem dX10_sign_21 : decode cX10_sign 21 = .ok (.iaload, 1) := by decide +kernel
theorem dX10_sign_22 : decode cX10_sign 22 = .ok (.goto 4, 3) := by decide +kernel
theorem dX10_sign_25 : decode cX10_sign 25 = .ok (.iconst (-1), 1) := by decide +kernel
theorem dX10_sign_26 : decode cX10_sign 26 = .ok (.ireturn, 1) := by decide +kernel
theorem dX10_signs_0 : decode cX10_signs 0 = .ok (.iload_n 1, 1) := by decide +kernel
theorem dX10_signs_1 : decode cX10_signs 1 = .ok (.i2l, 1) := by decide +kernel
theorem dX10_signs_2 : decode cX10_signs 2 = .ok (.lconst 0, 1) := by decide +kernel
theorem dX10_signs_3 : decode cX10_signs 3 = .ok (.ldc2_w 158, 3) := by decide +kernel
theorem dX10_signs_6 : decode cX10_signs 6 = .ok (.invokestatic 138, 3) := by decide +kernel
theorem dX10_signs_9 : decode cX10_signs 9 = .ok (.ifCond .ne 5, 3) := by decide +kernel
theorem dX10_signs_12 : decode cX10_signs 12 = .ok (.iconst (-1), 1) := by decide +kernel
theorem dX10_signs_13 : decode cX10_signs 13 = .ok (.ireturn, 1) := by decide +kernel
theorem dX10_signs_14 : decode cX10_signs 14 = .ok (.iload_n 1, 1) := by decide +kernel
theorem dX10_signs_15 : decode cX10_signs 15 = .ok (.iconst 3, 1) := by decide +kernel
theorem dX10_signs_16 : decode cX10_signs 16 = .ok (.if_icmp .ne 31, 3) := by decide +kernel
theorem dX10_signs_19 : decode cX10_signs 19 = .ok (.iconst 0, 1) := by decide +kernel
theorem dX10_signs_20 : decode cX10_signs 20 = .ok (.istore_n 2, 1) := by decide +kernel
theorem dX10_signs_21 : decode cX10_signs 21 = .ok (.aload_n 0, 1) := by decide +kernel
theorem dX10_signs_22 : decode cX10_signs 22 = .ok (.iconst 0, 1) := by decide +kernel
theorem dX10_signs_23 : decode cX10_signs 23 = .ok (.invokevirtual 150, 3) := by decide +kernel
theorem dX10_signs_26 : decode cX10_signs 26 = .ok (.aload_n 0, 1) := by decide +kernel
theorem dX10_signs_27 : decode cX10_signs 27 = .ok (.invokevirtual 160, 3) := by decide +kernel
theorem dX10_signs_30 : decode cX10_signs 30 = .ok (.iconst 1, 1) := by decide +kernel
theorem dX10_signs_31 : decode cX10_signs 31 = .ok (.if_icmp .le 14, 3) := by decide +kernel
theorem dX10_signs_34 : decode cX10_signs 34 = .ok (.iinc 2 1, 3) := by decide +kernel
theorem dX10_signs_37 : decode cX10_signs 37 = .ok (.aload_n 0, 1) := by decide +kernel
theorem dX10_signs_38 : decode cX10_signs 38 = .ok (.iload_n 2, 1) := by decide +kernel
theorem dX10_signs_39 : decode cX10_signs 39 = .ok (.invokevirtual 150, 3) := by decide +kernel
theorem dX10_signs_42 : decode cX10_signs 42 = .ok (.goto (-16), 3) := by decide +kernel
theorem dX10_signs_45 : decode cX10_signs 45 = .ok (.iload_n 2, 1) := by decide +kernel
theorem dX10_signs_46 : decode cX10_signs 46 = .ok (.ireturn, 1) := by decide +kernel
theorem dX10_signs_47 : decode cX10_signs 47 = .ok (.aload_n 0, 1) := by decide +kernel
theorem dX10_signs_48 : decode cX10_signs 48 = .ok (.aload_n 0, 1) := by decide +kernel
theorem dX10_signs_49 : decode cX10_signs 49 = .ok (.getfield 13, 3) := by decide +kernel
theorem dX10_signs_52 : decode cX10_signs 52 = .ok (.invokevirtual 150, 3) := by decide +kernel
theorem dX10_signs_55 : decode cX10_signs 55 = .ok (.iconst 0, 1) := by decide +kernel
theorem dX10_signs_56 : decode cX10_signs 56 = .ok (.istore_n 2, 1) := by decide +kernel
theorem dX10_signs_57 : decode cX10_signs 57 = .ok (.bipush (-4), 2) := by decide +kernel
theorem dX10_signs_59 : decode cX10_signs 59 = .ok (.istore_n 3, 1) := by decide +kernel
theorem dX10_signs_60 : decode cX10_signs 60 = .ok (.iconst 0, 1) := by decide +kernel
theorem dX10_signs_61 : decode cX10_signs 61 = .ok (.istore 4, 2) := by decide +kernel
theorem dX10_signs_63 : decode cX10_signs 63 = .ok (.iload 4, 2) := by decide +kernel
theorem dX10_signs_65 : decode cX10_signs 65 = .ok (.aload_n 0, 1) := by decide +kernel
theorem dX10_signs_66 : decode cX10_signs 66 = .ok (.getfield 135, 3) := by decide +kernel
theorem dX10_signs_69 : decode cX10_signs 69 = .ok (.if_icmp .ge 64, 3) := by decide +kernel
theorem dX10_signs_72 : decode cX10_signs 72 = .ok (.iconst 0, 1) := by decide +kernel
theorem dX10_signs_73 : decode cX10_signs 73 = .ok (.istore 5, 2) := by decide +kernel
theorem dX10_signs_75 : decode cX10_signs 75 = .ok (.iconst 0, 1) := by decide +kernel
theorem dX10_signs_76 : decode cX10_signs 76 = .ok (.istore 6, 2) := by decide +kernel
theorem dX10_signs_78 : decode cX10_signs 78 = .ok (.iload 6, 2) := by decide +kernel
theorem dX10_signs_80 : decode cX10_signs 80 = .ok (.aload_n 0, 1) := by decide +kernel
theorem dX10_signs_81 : decode cX10_signs 81 = .ok (.getfield 135, 3) := by decide +kernel
theorem dX10_signs_84 : decode cX10_signs 84 = .ok (.if_icmp .ge 31, 3) := by decide +kernel
theorem dX10_signs_87 : decode cX10_signs 87 = .ok (.iload 5, 2) := by decide +kernel
theorem dX10_signs_89 : decode cX10_signs 89 = .ok (.aload_n 0, 1) := by decide +kernel
theorem dX10_signs_90 : decode cX10_signs 90 = .ok (.getfield 17, 3) := by decide +kernel
theorem dX10_signs_93 : decode cX10_signs 93 = .ok (.iload 6, 2) := by decide +kernel
theorem dX10_signs_95 : decode cX10_signs 95 = .ok (.iaload, 1) := by decide +kernel
theorem dX10_signs_96 : decode cX10_signs 96 = .ok (.iload 4, 2) := by decide +kernel
theorem dX10_signs_98 : decode cX10_signs 98 = .ok (.if_icmp .ne 7, 3) := by decide +kernel
theorem dX10_signs_101 : decode cX10_signs 101 = .ok (.iconst 1, 1) := by decide +kernel
theorem dX10_signs_102 : decode cX10_signs 102 = .ok (.goto 4, 3) := by decide +kernel
theorem dX10_signs_105 : decode cX10_signs 105 = .ok (.iconst 0, 1) := by decide +kernel
theorem dX10_signs_106 : decode cX10_signs 106 = .ok (.iadd, 1) := by decide +kernel
theorem dX10_signs_107 : decode cX10_signs 107 = .ok (.istore 5, 2) := by decide +kernel
theorem dX10_signs_109 : decode cX10_signs 109 = .ok (.iinc 6 1, 3) := by decide +kernel
theorem dX10_signs_112 : decode cX10_signs 112 = .ok (.goto (-34), 3) := by decide +kernel
theorem dX10_signs_115 : decode cX10_signs 115 = .ok (.iload 5, 2) := by decide +kernel
theorem dX10_signs_117 : decode cX10_signs 117 = .ok (.iload_n 2, 1) := by decide +kernel
theorem dX10_signs_118 : decode cX10_signs 118 = .ok (.if_icmp .le 9, 3) := by decide +kernel
theorem dX10_signs_121 : decode cX10_signs 121 = .ok (.iload 5, 2) := by decide +kernel
theorem dX10_signs_123 : decode cX10_signs 123 = .ok (.istore_n 2, 1) := by decide +kernel
theorem dX10_signs_124 : decode cX10_signs 124 = .ok (.iload 4, 2) := by decide +kernel
theorem dX10_signs_126 : decode cX10_signs 126 = .ok (.istore_n 3, 1) := by decide +kernel
theorem dX10_signs_127 : decode cX10_signs 127 = .ok (.iinc 4 1, 3) := by decide +kernel
theorem dX10_signs_130 : decode cX10_signs 130 = .ok (.goto (-67), 3) := by decide +kernel
theorem dX10_signs_133 : decode cX10_signs 133 = .ok (.iload_n 1, 1) := by decide +kernel
theorem dX10_signs_134 : decode cX10_signs 134 = .ok (.ifCond .ne 10, 3) := by decide +kernel
theorem dX10_signs_137 : decode cX10_signs 137 = .ok (.aload_n 0, 1) := by decide +kernel
theorem dX10_signs_138 : decode cX10_signs 138 = .ok (.invokevirtual 160, 3) := by decide +kernel
theorem dX10_signs_141 : decode cX10_signs 141 = .ok (.goto 13, 3) := by decide +kernel
theorem dX10_signs_144 : decode cX10_signs 144 = .ok (.iload_n 1, 1) := by decide +kernel
theorem dX10_signs_145 : decode cX10_signs 145 = .ok (.iconst 1, 1) := by decide +kernel
theorem dX10_signs_146 : decode cX10_signs 146 = .ok (.if_icmp .ne 7, 3) := by decide +kernel
theorem dX10_signs_149 : decode cX10_signs 149 = .ok (.iload_n 2, 1) := by decide +kernel
theorem dX10_signs_150 : decode cX10_signs 150 = .ok (.goto 4, 3) := by decide +kernel
theorem dX10_signs_153 : decode cX10_signs 153 = .ok (.iload_n 3, 1) := by decide +kernel
theorem dX10_signs_154 : decode cX10_signs 154 = .ok (.ireturn, 1) := by decide +kernel
theorem dX10_isSign_0 : decode cX10_isSign 0 = .ok (.aload_n 0, 1) := by decide +kernel
theorem dX10_isSign_1 : decode cX10_isSign 1 = .ok (.aload_n 0, 1) := by decide +kernel
theorem dX10_isSign_2 : decode cX10_isSign 2 = .ok (.getfield 13, 3) := by decide +kernel
theorem dX10_isSign_5 : decode cX10_isSign 5 = .ok (.invokevirtual 150, 3) := by decide +kernel
theorem dX10_isSign_8 : decode cX10_isSign 8 = .ok (.aload_n 0, 1) := by decide +kernel
theorem dX10_isSign_9 : decode cX10_isSign 9 = .ok (.iload_n 1, 1) := by decide +kernel
theorem dX10_isSign_10 : decode cX10_isSign 10 = .ok (.invokevirtual 154, 3) := by decide +kernel
theorem dX10_isSign_13 : decode cX10_isSign 13 = .ok (.ifCond .eq 17, 3) := by decide +kernel
theorem dX10_isSign_16 : decode cX10_isSign 16 = .ok (.aload_n 0, 1) := by decide +kernel
theorem dX10_isSign_17 : decode cX10_isSign 17 = .ok (.getfield 17, 3) := by decide +kernel
theorem dX10_isSign_20 : decode cX10_isSign 20 = .ok (.iload_n 1, 1) := by decide +kernel
theorem dX10_isSign_21 : decode cX10_isSign 21 = .ok (.iaload, 1) := by decide +kernel
theorem dX10_isSign_22 : decode cX10_isSign 22 = .ok (.iload_n 1, 1) := by decide +kernel
theorem dX10_isSign_23 : decode cX10_isSign 23 = .ok (.if_icmp .ne 7, 3) := by decide +kernel
theorem dX10_isSign_26 : decode cX10_isSign 26 = .ok (.iconst 1, 1) := by decide +kernel
theorem dX10_isSign_27 : decode cX10_isSign 27 = .ok (.goto 4, 3) := by decide +kernel
theorem dX10_isSign_30 : decode cX10_isSign 30 = .ok (.iconst 0, 1) := by decide +kernel
theorem dX10_isSign_31 : decode cX10_isSign 31 = .ok (.ireturn, 1) := by decide +kernel
theorem dX10_isText_0 : decode cX10_isText 0 = .ok (.iload_n 1, 1) := by decide +kernel
theorem dX10_isText_1 : decode cX10_isText 1 = .ok (.i2l, 1) := by decide +kernel
theorem dX10_isText_2 : decode cX10_isText 2 = .ok (.lconst 0, 1) := by decide +kernel
theorem dX10_isText_3 : decode cX10_isText 3 = .ok (.aload_n 0, 1) := by decide +kernel
theorem dX10_isText_4 : decode cX10_isText 4 = .ok (.getfield 164, 3) := by decide +kernel
theorem dX10_isText_7 : decode cX10_isText 7 = .ok (.iconst 1, 1) := by decide +kernel
theorem dX10_isText_8 : decode cX10_isText 8 = .ok (.isub, 1) := by decide +kernel
theorem dX10_isText_9 : decode cX10_isText 9 = .ok (.i2l, 1) := by decide +kernel
theorem dX10_isText_10 : decode cX10_isText 10 = .ok (.invokestatic 138, 3) := by decide +kernel
theorem dX10_isText_13 : decode cX10_isText 13 = .ok (.ireturn, 1) := by decide +kernel
theorem dX10_at_0 : decode cX10_at 0 = .ok (.aload_n 0, 1) := by decide +kernel
theorem dX10_at_1 : decode cX10_at 1 = .ok (.getfield 23, 3) := by decide +kernel
theorem dX10_at_4 : decode cX10_at 4 = .ok (.bipush 24, 2) := by decide +kernel
theorem dX10_at_6 : decode cX10_at 6 = .ok (.iload_n 1, 1) := by decide +kernel
theorem dX10_at_7 : decode cX10_at 7 = .ok (.imul, 1) := by decide +kernel
theorem dX10_at_8 : decode cX10_at 8 = .ok (.iload_n 2, 1) := by decide +kernel
theorem dX10_at_9 : decode cX10_at 9 = .ok (.iadd, 1) := by decide +kernel
theorem dX10_at_10 : decode cX10_at 10 = .ok (.iaload, 1) := by decide +kernel
theorem dX10_at_11 : decode cX10_at 11 = .ok (.istore_n 3, 1) := by decide +kernel
theorem dX10_at_12 : decode cX10_at 12 = .ok (.iload_n 3, 1) := by decide +kernel
theorem dX10_at_13 : decode cX10_at 13 = .ok (.ifCond .ge 7, 3) := by decide +kernel
theorem dX10_at_16 : decode cX10_at 16 = .ok (.iload_n 3, 1) := by decide +kernel
theorem dX10_at_17 : decode cX10_at 17 = .ok (.goto 9, 3) := by decide +kernel
theorem dX10_at_20 : decode cX10_at 20 = .ok (.aload_n 0, 1) := by decide +kernel
theorem dX10_at_21 : decode cX10_at 21 = .ok (.getfield 17, 3) := by decide +kernel
theorem dX10_at_24 : decode cX10_at 24 = .ok (.iload_n 3, 1) := by decide +kernel
theorem dX10_at_25 : decode cX10_at 25 = .ok (.iaload, 1) := by decide +kernel
theorem dX10_at_26 : decode cX10_at 26 = .ok (.ireturn, 1) := by decide +kernel
theorem dX10_drop_0 : decode cX10_drop 0 = .ok (.aload_n 0, 1) := by decide +kernel
theorem dX10_drop_1 : decode cX10_drop 1 = .ok (.getfield 164, 3) := by decide +kernel
theorem dX10_drop_4 : decode cX10_drop 4 = .ok (.ifCond .ne 6, 3) := by decide +kernel
theorem dX10_drop_7 : decode cX10_drop 7 = .ok (.bipush (-4), 2) := by decide +kernel
theorem dX10_drop_9 : decode cX10_drop 9 = .ok (.ireturn, 1) := by decide +kernel
theorem dX10_drop_10 : decode cX10_drop 10 = .ok (.aload_n 0, 1) := by decide +kernel
theorem dX10_drop_11 : decode cX10_drop 11 = .ok (.dup, 1) := by decide +kernel
theorem dX10_drop_12 : decode cX10_drop 12 = .ok (.getfield 164, 3) := by decide +kernel
theorem dX10_drop_15 : decode cX10_drop 15 = .ok (.iconst 1, 1) := by decide +kernel
theorem dX10_drop_16 : decode cX10_drop 16 = .ok (.isub, 1) := by decide +kernel
theorem dX10_drop_17 : decode cX10_drop 17 = .ok (.putfield 164, 3) := by decide +kernel
theorem dX10_drop_20 : decode cX10_drop 20 = .ok (.aload_n 0, 1) := by decide +kernel
theorem dX10_drop_21 : decode cX10_drop 21 = .ok (.getfield 164, 3) := by decide +kernel
theorem dX10_drop_24 : decode cX10_drop 24 = .ok (.ireturn, 1) := by decide +kernel
theorem dX10_findWords_0 : decode cX10_findWords 0 = .ok (.aload_n 0, 1) := by decide +kernel
theorem dX10_findWords_1 : decode cX10_findWords 1 = .ok (.aload_n 0, 1) := by decide +kernel
theorem dX10_findWords_2 : decode cX10_findWords 2 = .ok (.getfield 13, 3) := by decide +kernel
theorem dX10_findWords_5 : decode cX10_findWords 5 = .ok (.invokevirtual 150, 3) := by decide +kernel
theorem dX10_findWords_8 : decode cX10_findWords 8 = .ok (.aload_n 0, 1) := by decide +kernel
theorem dX10_findWords_9 : decode cX10_findWords 9 = .ok (.iconst 0, 1) := by decide +kernel
theorem dX10_findWords_10 : decode cX10_findWords 10 = .ok (.putfield 167, 3) := by decide +kernel
theorem dX10_findWords_13 : decode cX10_findWords 13 = .ok (.iconst 0, 1) := by decide +kernel
theorem dX10_findWords_14 : decode cX10_findWords 14 = .ok (.istore_n 1, 1) := by decide +kernel
theorem dX10_findWords_15 : decode cX10_findWords 15 = .ok (.iload_n 1, 1) := by decide +kernel
theorem dX10_findWords_16 : decode cX10_findWords 16 = .ok (.aload_n 0, 1) := by decide +kernel
theorem dX10_findWords_17 : decode cX10_findWords 17 = .ok (.getfield 164, 3) := by decide +kernel
theorem dX10_findWords_20 : decode cX10_findWords 20 = .ok (.if_icmp .ge 147, 3) := by decide +kernel
theorem dX10_findWords_23 : decode cX10_findWords 23 = .ok (.iconst 0, 1) := by decide +kernel
theorem dX10_findWords_24 : decode cX10_findWords 24 = .ok (.istore_n 2, 1) := by decide +kernel
theorem dX10_findWords_25 : decode cX10_findWords 25 = .ok (.iconst 1, 1) := by decide +kernel
theorem dX10_findWords_26 : decode cX10_findWords 26 = .ok (.istore_n 3, 1) := by decide +kernel
theorem dX10_findWords_27 : decode cX10_findWords 27 = .ok (.iconst 0, 1) := by decide +kernel
theorem dX10_findWords_28 : decode cX10_findWords 28 = .ok (.istore 4, 2) := by decide +kernel
theorem dX10_findWords_30 : decode cX10_findWords 30 = .ok (.iload 4, 2) := by decide +kernel
theorem dX10_findWords_32 : decode cX10_findWords 32 = .ok (.aload_n 0, 1) := by decide +kernel
theorem dX10_findWords_33 : decode cX10_findWords 33 = .ok (.getfield 20, 3) := by decide +kernel
theorem dX10_findWords_36 : decode cX10_findWords 36 = .ok (.iload_n 1, 1) := by decide +kernel
theorem dX10_findWords_37 : decode cX10_findWords 37 = .ok (.iaload, 1) := by decide +kernel
theorem dX10_findWords_38 : decode cX10_findWords 38 = .ok (.if_icmp .gt 123, 3) := by decide +kernel
theorem dX10_findWords_41 : decode cX10_findWords 41 = .ok (.iload 4, 2) := by decide +kernel
theorem dX10_findWords_43 : decode cX10_findWords 43 = .ok (.aload_n 0, 1) := by decide +kernel
theorem dX10_findWords_44 : decode cX10_findWords 44 = .ok (.getfield 20, 3) := by decide +kernel
theorem dX10_findWords_47 : decode cX10_findWords 47 = .ok (.iload_n 1, 1) := by decide +kernel
theorem dX10_findWords_48 : decode cX10_findWords 48 = .ok (.iaload, 1) := by decide +kernel
theorem dX10_findWords_49 : decode cX10_findWords 49 = .ok (.if_icmp .ge 13, 3) := by decide +kernel
theorem dX10_findWords_52 : decode cX10_findWords 52 = .ok (.aload_n 0, 1) := by decide +kernel
theorem dX10_findWords_53 : decode cX10_findWords 53 = .ok (.iload_n 1, 1) := by decide +kernel
theorem dX10_findWords_54 : decode cX10_findWords 54 = .ok (.iload 4, 2) := by decide +kernel
theorem dX10_findWords_56 : decode cX10_findWords 56 = .ok (.invokevirtual 170, 3) := by decide +kernel
theorem dX10_findWords_59 : decode cX10_findWords 59 = .ok (.goto 5, 3) := by decide +kernel
theorem dX10_findWords_62 : decode cX10_findWords 62 = .ok (.bipush (-2), 2) := by decide +kernel
theorem dX10_findWords_64 : decode cX10_findWords 64 = .ok (.istore 5, 2) := by decide +kernel
theorem dX10_findWords_66 : decode cX10_findWords 66 = .ok (.iload 5, 2) := by decide +kernel
theorem dX10_findWords_68 : decode cX10_findWords 68 = .ok (.bipush (-2), 2) := by decide +kernel
theorem dX10_findWords_70 : decode cX10_findWords 70 = .ok (.if_icmp .ne 69, 3) := by decide +kernel
theorem dX10_findWords_73 : decode cX10_findWords 73 = .ok (.iload 4, 2) := by decide +kernel
theorem dX10_findWords_75 : decode cX10_findWords 75 = .ok (.iload_n 2, 1) := by decide +kernel
theorem dX10_findWords_76 : decode cX10_findWords 76 = .ok (.if_icmp .le 56, 3) := by decide +kernel
theorem dX10_findWords_79 : decode cX10_findWords 79 = .ok (.aload_n 0, 1) := by decide +kernel
theorem dX10_findWords_80 : decode cX10_findWords 80 = .ok (.getfield 26, 3) := by decide +kernel
theorem dX10_findWords_83 : decode cX10_findWords 83 = .ok (.aload_n 0, 1) := by decide +kernel
theorem dX10_findWords_84 : decode cX10_findWords 84 = .ok (.getfield 167, 3) := by decide +kernel
theorem dX10_findWords_87 : decode cX10_findWords 87 = .ok (.iload_n 1, 1) := by decide +kernel
theorem dX10_findWords_88 : decode cX10_findWords 88 = .ok (.iastore, 1) := by decide +kernel
theorem dX10_findWords_89 : decode cX10_findWords 89 = .ok (.aload_n 0, 1) := by decide +kernel
theorem dX10_findWords_90 : decode cX10_findWords 90 = .ok (.getfield 29, 3) := by decide +kernel
theorem dX10_findWords_93 : decode cX10_findWords 93 = .ok (.aload_n 0, 1) := by decide +kernel
theorem dX10_findWords_94 : decode cX10_findWords 94 = .ok (.getfield 167, 3) := by decide +kernel
theorem dX10_findWords_97 : decode cX10_findWords 97 = .ok (.iload_n 2, 1) := by decide +kernel
theorem dX10_findWords_98 : decode cX10_findWords 98 = .ok (.iastore, 1) := by decide +kernel
theorem dX10_findWords_99 : decode cX10_findWords 99 = .ok (.aload_n 0, 1) := by decide +kernel
theorem dX10_findWords_100 : decode cX10_findWords 100 = .ok (.getfield 32, 3) := by decide +kernel
theorem dX10_findWords_103 : decode cX10_findWords 103 = .ok (.aload_n 0, 1) := by decide +kernel
theorem dX10_findWords_104 : decode cX10_findWords 104 = .ok (.getfield 167, 3) := by decide +kernel
theorem dX10_findWords_107 : decode cX10_findWords 107 = .ok (.iload 4, 2) := by decide +kernel
theorem dX10_findWords_109 : decode cX10_findWords 109 = .ok (.iload_n 2, 1) := by decide +kernel
theorem dX10_findWords_110 : decode cX10_findWords 110 = .ok (.isub, 1) := by decide +kernel
theorem dX10_findWords_111 : decode cX10_findWords 111 = .ok (.iastore, 1) := by decide +kernel
theorem dX10_findWords_112 : decode cX10_findWords 112 = .ok (.aload_n 0, 1) := by decide +kernel
theorem dX10_findWords_113 : decode cX10_findWords 113 = .ok (.getfield 35, 3) := by decide +kernel
theorem dX10_findWords_116 : decode cX10_findWords 116 = .ok (.aload_n 0, 1) := by decide +kernel
theorem dX10_findWords_117 : decode cX10_findWords 117 = .ok (.getfield 167, 3) := by decide +kernel
theorem dX10_findWords_120 : decode cX10_findWords 120 = .ok (.iload_n 3, 1) := by decide +kernel
theorem dX10_findWords_121 : decode cX10_findWords 121 = .ok (.bastore, 1) := by decide +kernel
theorem dX10_findWords_122 : decode cX10_findWords 122 = .ok (.aload_n 0, 1) := by decide +kernel
theorem dX10_findWords_123 : decode cX10_findWords 123 = .ok (.dup, 1) := by decide +kernel
theorem dX10_findWords_124 : decode cX10_findWords 124 = .ok (.getfield 167, 3) := by decide +kernel
theorem dX10_findWords_127 : decode cX10_findWords 127 = .ok (.iconst 1, 1) := by decide +kernel
theorem dX10_findWords_128 : decode cX10_findWords 128 = .ok (.iadd, 1) := by decide +kernel
theorem dX10_findWords_129 : decode cX10_findWords 129 = .ok (.putfield 167, 3) := by decide +kernel
theorem dX10_findWords_132 : decode cX10_findWords 132 = .ok (.iload 4, 2) := by decide +kernel
theorem dX10_findWords_134 : decode cX10_findWords 134 = .ok (.iconst 1, 1) := by decide +kernel
theorem dX10_findWords_135 : decode cX10_findWords 135 = .ok (.iadd, 1) := by decide +kernel
theorem dX10_findWords_136 : decode cX10_findWords 136 = .ok (.istore_n 2, 1) := by decide +kernel
theorem dX10_findWords_137 : decode cX10_findWords 137 = .ok (.iconst 1, 1) := by decide +kernel
theorem dX10_findWords_138 : decode cX10_findWords 138 = .ok (.istore_n 3, 1) := by decide +kernel
theorem dX10_findWords_139 : decode cX10_findWords 139 = .ok (.iload_n 3, 1) := by decide +kernel
theorem dX10_findWords_140 : decode cX10_findWords 140 = .ok (.ifCond .eq 13, 3) := by decide +kernel
theorem dX10_findWords_143 : decode cX10_findWords 143 = .ok (.iload 5, 2) := by decide +kernel
theorem dX10_findWords_145 : decode cX10_findWords 145 = .ok (.iconst (-1), 1) := by decide +kernel
theorem dX10_findWords_146 : decode cX10_findWords 146 = .ok (.if_icmp .eq 7, 3) := by decide +kernel
theorem dX10_findWords_149 : decode cX10_findWords 149 = .ok (.iconst 1, 1) := by decide +kernel
theorem dX10_findWords_150 : decode cX10_findWords 150 = .ok (.goto 4, 3) := by decide +kernel
theorem dX10_findWords_153 : decode cX10_findWords 153 = .ok (.iconst 0, 1) := by decide +kernel
theorem dX10_findWords_154 : decode cX10_findWords 154 = .ok (.istore_n 3, 1) := by decide +kernel
theorem dX10_findWords_155 : decode cX10_findWords 155 = .ok (.iinc 4 1, 3) := by decide +kernel
theorem dX10_findWords_158 : decode cX10_findWords 158 = .ok (.goto (-128), 3) := by decide +kernel
theorem dX10_findWords_161 : decode cX10_findWords 161 = .ok (.iinc 1 1, 3) := by decide +kernel
theorem dX10_findWords_164 : decode cX10_findWords 164 = .ok (.goto (-149), 3) := by decide +kernel
theorem dX10_findWords_167 : decode cX10_findWords 167 = .ok (.return_, 1) := by decide +kernel
theorem dX10_wordAt_0 : decode cX10_wordAt 0 = .ok (.aload_n 0, 1) := by decide +kernel
theorem dX10_wordAt_1 : decode cX10_wordAt 1 = .ok (.aload_n 0, 1) := by decide +kernel
theorem dX10_wordAt_2 : decode cX10_wordAt 2 = .ok (.getfield 26, 3) := by decide +kernel
theorem dX10_wordAt_5 : decode cX10_wordAt 5 = .ok (.iload_n 1, 1) := by decide +kernel
theorem dX10_wordAt_6 : decode cX10_wordAt 6 = .ok (.iaload, 1) := by decide +kernel
theorem dX10_wordAt_7 : decode cX10_wordAt 7 = .ok (.aload_n 0, 1) := by decide +kernel
theorem dX10_wordAt_8 : decode cX10_wordAt 8 = .ok (.getfield 29, 3) := by decide +kernel
theorem dX10_wordAt_11 : decode cX10_wordAt 11 = .ok (.iload_n 1, 1) := by decide +kernel
theorem dX10_wordAt_12 : decode cX10_wordAt 12 = .ok (.iaload, 1) := by decide +kernel
theorem dX10_wordAt_13 : decode cX10_wordAt 13 = .ok (.iload_n 2, 1) := by decide +kernel
theorem dX10_wordAt_14 : decode cX10_wordAt 14 = .ok (.iadd, 1) := by decide +kernel
theorem dX10_wordAt_15 : decode cX10_wordAt 15 = .ok (.invokevirtual 170, 3) := by decide +kernel
theorem dX10_wordAt_18 : decode cX10_wordAt 18 = .ok (.ireturn, 1) := by decide +kernel
theorem dX10_textOf_0 : decode cX10_textOf 0 = .ok (.aload_n 0, 1) := by decide +kernel
theorem dX10_textOf_1 : decode cX10_textOf 1 = .ok (.iload_n 1, 1) := by decide +kernel
theorem dX10_textOf_2 : decode cX10_textOf 2 = .ok (.invokevirtual 174, 3) := by decide +kernel
theorem dX10_textOf_5 : decode cX10_textOf 5 = .ok (.ifCond .eq 36, 3) := by decide +kernel
theorem dX10_textOf_8 : decode cX10_textOf 8 = .ok (.iload_n 2, 1) := by decide +kernel
theorem dX10_textOf_9 : decode cX10_textOf 9 = .ok (.i2l, 1) := by decide +kernel
theorem dX10_textOf_10 : decode cX10_textOf 10 = .ok (.lconst 0, 1) := by decide +kernel
theorem dX10_textOf_11 : decode cX10_textOf 11 = .ok (.ldc2_w 177, 3) := by decide +kernel
theorem dX10_textOf_14 : decode cX10_textOf 14 = .ok (.invokestatic 138, 3) := by decide +kernel
theorem dX10_textOf_17 : decode cX10_textOf 17 = .ok (.ifCond .ne 27, 3) := by decide +kernel
theorem dX10_textOf_20 : decode cX10_textOf 20 = .ok (.iload_n 2, 1) := by decide +kernel
theorem dX10_textOf_21 : decode cX10_textOf 21 = .ok (.i2l, 1) := by decide +kernel
theorem dX10_textOf_22 : decode cX10_textOf 22 = .ok (.ldc2_w 179, 3) := by decide +kernel
theorem dX10_textOf_25 : decode cX10_textOf 25 = .ok (.bipush 9, 2) := by decide +kernel
theorem dX10_textOf_27 : decode cX10_textOf 27 = .ok (.aload_n 0, 1) := by decide +kernel
theorem dX10_textOf_28 : decode cX10_textOf 28 = .ok (.getfield 20, 3) := by decide +kernel
theorem dX10_textOf_31 : decode cX10_textOf 31 = .ok (.iload_n 1, 1) := by decide +kernel
theorem dX10_textOf_32 : decode cX10_textOf 32 = .ok (.iaload, 1) := by decide +kernel
theorem dX10_textOf_33 : decode cX10_textOf 33 = .ok (.iadd, 1) := by decide +kernel
theorem dX10_textOf_34 : decode cX10_textOf 34 = .ok (.i2l, 1) := by decide +kernel
theorem dX10_textOf_35 : decode cX10_textOf 35 = .ok (.invokestatic 138, 3) := by decide +kernel
theorem dX10_textOf_38 : decode cX10_textOf 38 = .ok (.ifCond .ne 6, 3) := by decide +kernel
theorem dX10_textOf_41 : decode cX10_textOf 41 = .ok (.bipush (-10), 2) := by decide +kernel
theorem dX10_textOf_43 : decode cX10_textOf 43 = .ok (.ireturn, 1) := by decide +kernel
theorem dX10_textOf_44 : decode cX10_textOf 44 = .ok (.aload_n 0, 1) := by decide +kernel
theorem dX10_textOf_45 : decode cX10_textOf 45 = .ok (.invokevirtual 181, 3) := by decide +kernel
theorem dX10_textOf_48 : decode cX10_textOf 48 = .ok (.iconst 0, 1) := by decide +kernel
theorem dX10_textOf_49 : decode cX10_textOf 49 = .ok (.istore_n 3, 1) := by decide +kernel
theorem dX10_textOf_50 : decode cX10_textOf 50 = .ok (.iconst 0, 1) := by decide +kernel
theorem dX10_textOf_51 : decode cX10_textOf 51 = .ok (.istore 4, 2) := by decide +kernel
theorem dX10_textOf_53 : decode cX10_textOf 53 = .ok (.iconst 0, 1) := by decide +kernel
theorem dX10_textOf_54 : decode cX10_textOf 54 = .ok (.istore 5, 2) := by decide +kernel
theorem dX10_textOf_56 : decode cX10_textOf 56 = .ok (.iload 5, 2) := by decide +kernel
theorem dX10_textOf_58 : decode cX10_textOf 58 = .ok (.aload_n 0, 1) := by decide +kernel
theorem dX10_textOf_59 : decode cX10_textOf 59 = .ok (.getfield 20, 3) := by decide +kernel
theorem dX10_textOf_62 : decode cX10_textOf 62 = .ok (.iload_n 1, 1) := by decide +kernel
theorem dX10_textOf_63 : decode cX10_textOf 63 = .ok (.iaload, 1) := by decide +kernel
theorem dX10_textOf_64 : decode cX10_textOf 64 = .ok (.if_icmp .ge 48, 3) := by decide +kernel
theorem dX10_textOf_67 : decode cX10_textOf 67 = .ok (.iload_n 3, 1) := by decide +kernel
theorem dX10_textOf_68 : decode cX10_textOf 68 = .ok (.aload_n 0, 1) := by decide +kernel
theorem dX10_textOf_69 : decode cX10_textOf 69 = .ok (.iload_n 1, 1) := by decide +kernel
theorem dX10_textOf_70 : decode cX10_textOf 70 = .ok (.iload 5, 2) := by decide +kernel
theorem dX10_textOf_72 : decode cX10_textOf 72 = .ok (.invokevirtual 170, 3) := by decide +kernel
theorem dX10_textOf_75 : decode cX10_textOf 75 = .ok (.ifCond .lt 7, 3) := by decide +kernel
theorem dX10_textOf_78 : decode cX10_textOf 78 = .ok (.iconst 1, 1) := by decide +kernel
theorem dX10_textOf_79 : decode cX10_textOf 79 = .ok (.goto 4, 3) := by decide +kernel
theorem dX10_textOf_82 : decode cX10_textOf 82 = .ok (.iconst 0, 1) := by decide +kernel
theorem dX10_textOf_83 : decode cX10_textOf 83 = .ok (.iadd, 1) := by decide +kernel
theorem dX10_textOf_84 : decode cX10_textOf 84 = .ok (.istore_n 3, 1) := by decide +kernel
theorem dX10_textOf_85 : decode cX10_textOf 85 = .ok (.iload 4, 2) := by decide +kernel
theorem dX10_textOf_87 : decode cX10_textOf 87 = .ok (.aload_n 0, 1) := by decide +kernel
theorem dX10_textOf_88 : decode cX10_textOf 88 = .ok (.iload_n 1, 1) := by decide +kernel
theorem dX10_textOf_89 : decode cX10_textOf 89 = .ok (.iload 5, 2) := by decide +kernel
theorem dX10_textOf_91 : decode cX10_textOf 91 = .ok (.invokevirtual 170, 3) := by decide +kernel
theorem dX10_textOf_94 : decode cX10_textOf 94 = .ok (.iconst (-1), 1) := by decide +kernel
theorem dX10_textOf_95 : decode cX10_textOf 95 = .ok (.if_icmp .ne 7, 3) := by decide +kernel
theorem dX10_textOf_98 : decode cX10_textOf 98 = .ok (.iconst 1, 1) := by decide +kernel
theorem dX10_textOf_99 : decode cX10_textOf 99 = .ok (.goto 4, 3) := by decide +kernel
theorem dX10_textOf_102 : decode cX10_textOf 102 = .ok (.iconst 0, 1) := by decide +kernel
theorem dX10_textOf_103 : decode cX10_textOf 103 = .ok (.iadd, 1) := by decide +kernel
theorem dX10_textOf_104 : decode cX10_textOf 104 = .ok (.istore 4, 2) := by decide +kernel
theorem dX10_textOf_106 : decode cX10_textOf 106 = .ok (.iinc 5 1, 3) := by decide +kernel
theorem dX10_textOf_109 : decode cX10_textOf 109 = .ok (.goto (-53), 3) := by decide +kernel
theorem dX10_textOf_112 : decode cX10_textOf 112 = .ok (.iconst 0, 1) := by decide +kernel
theorem dX10_textOf_113 : decode cX10_textOf 113 = .ok (.istore 5, 2) := by decide +kernel
theorem dX10_textOf_115 : decode cX10_textOf 115 = .ok (.iconst 0, 1) := by decide +kernel
theorem dX10_textOf_116 : decode cX10_textOf 116 = .ok (.istore 6, 2) := by decide +kernel
theorem dX10_textOf_118 : decode cX10_textOf 118 = .ok (.iconst 0, 1) := by decide +kernel
theorem dX10_textOf_119 : decode cX10_textOf 119 = .ok (.istore 7, 2) := by decide +kernel
theorem dX10_textOf_121 : decode cX10_textOf 121 = .ok (.iconst 0, 1) := by decide +kernel
theorem dX10_textOf_122 : decode cX10_textOf 122 = .ok (.istore 8, 2) := by decide +kernel
theorem dX10_textOf_124 : decode cX10_textOf 124 = .ok (.iload 8, 2) := by decide +kernel
theorem dX10_textOf_126 : decode cX10_textOf 126 = .ok (.aload_n 0, 1) := by decide +kernel
theorem dX10_textOf_127 : decode cX10_textOf 127 = .ok (.getfield 167, 3) := by decide +kernel
theorem dX10_textOf_130 : decode cX10_textOf 130 = .ok (.if_icmp .ge 79, 3) := by decide +kernel
theorem dX10_textOf_133 : decode cX10_textOf 133 = .ok (.aload_n 0, 1) := by decide +kernel
theorem dX10_textOf_134 : decode cX10_textOf 134 = .ok (.getfield 26, 3) := by decide +kernel
theorem dX10_textOf_137 : decode cX10_textOf 137 = .ok (.iload 8, 2) := by decide +kernel
theorem dX10_textOf_139 : decode cX10_textOf 139 = .ok (.iaload, 1) := by decide +kernel
theorem dX10_textOf_140 : decode cX10_textOf 140 = .ok (.iload_n 1, 1) := by decide +kernel
theorem dX10_textOf_141 : decode cX10_textOf 141 = .ok (.if_icmp .ne 62, 3) := by decide +kernel
theorem dX10_textOf_144 : decode cX10_textOf 144 = .ok (.iinc 5 1, 3) := by decide +kernel
theorem dX10_textOf_147 : decode cX10_textOf 147 = .ok (.iload 6, 2) := by decide +kernel
theorem dX10_textOf_149 : decode cX10_textOf 149 = .ok (.aload_n 0, 1) := by decide +kernel
theorem dX10_textOf_150 : decode cX10_textOf 150 = .ok (.getfield 35, 3) := by decide +kernel
theorem dX10_textOf_153 : decode cX10_textOf 153 = .ok (.iload 8, 2) := by decide +kernel
theorem dX10_textOf_155 : decode cX10_textOf 155 = .ok (.baload, 1) := by decide +kernel
theorem dX10_textOf_156 : decode cX10_textOf 156 = .ok (.ifCond .eq 7, 3) := by decide +kernel
theorem dX10_textOf_159 : decode cX10_textOf 159 = .ok (.iconst 1, 1) := by decide +kernel
theorem dX10_textOf_160 : decode cX10_textOf 160 = .ok (.goto 4, 3) := by decide +kernel
theorem dX10_textOf_163 : decode cX10_textOf 163 = .ok (.iconst 0, 1) := by decide +kernel
theorem dX10_textOf_164 : decode cX10_textOf 164 = .ok (.iadd, 1) := by decide +kernel
theorem dX10_textOf_165 : decode cX10_textOf 165 = .ok (.istore 6, 2) := by decide +kernel
theorem dX10_textOf_167 : decode cX10_textOf 167 = .ok (.aload_n 0, 1) := by decide +kernel
theorem dX10_textOf_168 : decode cX10_textOf 168 = .ok (.getfield 35, 3) := by decide +kernel
theorem dX10_textOf_171 : decode cX10_textOf 171 = .ok (.iload 8, 2) := by decide +kernel
theorem dX10_textOf_173 : decode cX10_textOf 173 = .ok (.baload, 1) := by decide +kernel
theorem dX10_textOf_174 : decode cX10_textOf 174 = .ok (.ifCond .eq 25, 3) := by decide +kernel
theorem dX10_textOf_177 : decode cX10_textOf 177 = .ok (.aload_n 0, 1) := by decide +kernel
theorem dX10_textOf_178 : decode cX10_textOf 178 = .ok (.getfield 32, 3) := by decide +kernel
theorem dX10_textOf_181 : decode cX10_textOf 181 = .ok (.iload 8, 2) := by decide +kernel
theorem dX10_textOf_183 : decode cX10_textOf 183 = .ok (.iaload, 1) := by decide +kernel
theorem dX10_textOf_184 : decode cX10_textOf 184 = .ok (.iload 7, 2) := by decide +kernel
theorem dX10_textOf_186 : decode cX10_textOf 186 = .ok (.if_icmp .le 13, 3) := by decide +kernel
theorem dX10_textOf_189 : decode cX10_textOf 189 = .ok (.aload_n 0, 1) := by decide +kernel
theorem dX10_textOf_190 : decode cX10_textOf 190 = .ok (.getfield 32, 3) := by decide +kernel
theorem dX10_textOf_193 : decode cX10_textOf 193 = .ok (.iload 8, 2) := by decide +kernel
theorem dX10_textOf_195 : decode cX10_textOf 195 = .ok (.iaload, 1) := by decide +kernel
theorem dX10_textOf_196 : decode cX10_textOf 196 = .ok (.goto 5, 3) := by decide +kernel
theorem dX10_textOf_199 : decode cX10_textOf 199 = .ok (.iload 7, 2) := by decide +kernel
theorem dX10_textOf_201 : decode cX10_textOf 201 = .ok (.istore 7, 2) := by decide +kernel
theorem dX10_textOf_203 : decode cX10_textOf 203 = .ok (.iinc 8 1, 3) := by decide +kernel
theorem dX10_textOf_206 : decode cX10_textOf 206 = .ok (.goto (-82), 3) := by decide +kernel
theorem dX10_textOf_209 : decode cX10_textOf 209 = .ok (.iload_n 2, 1) := by decide +kernel
theorem dX10_textOf_210 : decode cX10_textOf 210 = .ok (.tableswitch 59 0 5 #[38, 45, 47, 50, 53, 56], 38) := by decide +kernel
theorem dX10_textOf_248 : decode cX10_textOf 248 = .ok (.aload_n 0, 1) := by decide +kernel
theorem dX10_textOf_249 : decode cX10_textOf 249 = .ok (.getfield 20, 3) := by decide +kernel
theorem dX10_textOf_252 : decode cX10_textOf 252 = .ok (.iload_n 1, 1) := by decide +kernel
theorem dX10_textOf_253 : decode cX10_textOf 253 = .ok (.iaload, 1) := by decide +kernel
theorem dX10_textOf_254 : decode cX10_textOf 254 = .ok (.ireturn, 1) := by decide +kernel
theorem dX10_textOf_255 : decode cX10_textOf 255 = .ok (.iload_n 3, 1) := by decide +kernel
theorem dX10_textOf_256 : decode cX10_textOf 256 = .ok (.ireturn, 1) := by decide +kernel
theorem dX10_textOf_257 : decode cX10_textOf 257 = .ok (.iload 4, 2) := by decide +kernel
theorem dX10_textOf_259 : decode cX10_textOf 259 = .ok (.ireturn, 1) := by decide +kernel
theorem dX10_textOf_260 : decode cX10_textOf 260 = .ok (.iload 5, 2) := by decide +kernel
theorem dX10_textOf_262 : decode cX10_textOf 262 = .ok (.ireturn, 1) := by decide +kernel
theorem dX10_textOf_263 : decode cX10_textOf 263 = .ok (.iload 6, 2) := by decide +kernel
theorem dX10_textOf_265 : decode cX10_textOf 265 = .ok (.ireturn, 1) := by decide +kernel
theorem dX10_textOf_266 : decode cX10_textOf 266 = .ok (.iload 7, 2) := by decide +kernel
theorem dX10_textOf_268 : decode cX10_textOf 268 = .ok (.ireturn, 1) := by decide +kernel
theorem dX10_textOf_269 : decode cX10_textOf 269 = .ok (.aload_n 0, 1) := by decide +kernel
theorem dX10_textOf_270 : decode cX10_textOf 270 = .ok (.iload_n 1, 1) := by decide +kernel
theorem dX10_textOf_271 : decode cX10_textOf 271 = .ok (.iload_n 2, 1) := by decide +kernel
theorem dX10_textOf_272 : decode cX10_textOf 272 = .ok (.bipush 10, 2) := by decide +kernel
theorem dX10_textOf_274 : decode cX10_textOf 274 = .ok (.isub, 1) := by decide +kernel
theorem dX10_textOf_275 : decode cX10_textOf 275 = .ok (.invokevirtual 170, 3) := by decide +kernel
theorem dX10_textOf_278 : decode cX10_textOf 278 = .ok (.ireturn, 1) := by decide +kernel
theorem dX10_countOf_0 : decode cX10_countOf 0 = .ok (.iconst 0, 1) := by decide +kernel
theorem dX10_countOf_1 : decode cX10_countOf 1 = .ok (.istore_n 2, 1) := by decide +kernel
theorem dX10_countOf_2 : decode cX10_countOf 2 = .ok (.iconst 0, 1) := by decide +kernel
theorem dX10_countOf_3 : decode cX10_countOf 3 = .ok (.istore_n 3, 1) := by decide +kernel
theorem dX10_countOf_4 : decode cX10_countOf 4 = .ok (.iload_n 3, 1) := by decide +kernel
theorem dX10_countOf_5 : decode cX10_countOf 5 = .ok (.aload_n 0, 1) := by decide +kernel
theorem dX10_countOf_6 : decode cX10_countOf 6 = .ok (.getfield 164, 3) := by decide +kernel
theorem dX10_countOf_9 : decode cX10_countOf 9 = .ok (.if_icmp .ge 48, 3) := by decide +kernel
theorem dX10_countOf_12 : decode cX10_countOf 12 = .ok (.iconst 0, 1) := by decide +kernel
theorem dX10_countOf_13 : decode cX10_countOf 13 = .ok (.istore 4, 2) := by decide +kernel
theorem dX10_countOf_15 : decode cX10_countOf 15 = .ok (.iload 4, 2) := by decide +kernel
theorem dX10_countOf_17 : decode cX10_countOf 17 = .ok (.aload_n 0, 1) := by decide +kernel
theorem dX10_countOf_18 : decode cX10_countOf 18 = .ok (.getfield 20, 3) := by decide +kernel
theorem dX10_countOf_21 : decode cX10_countOf 21 = .ok (.iload_n 3, 1) := by decide +kernel
theorem dX10_countOf_22 : decode cX10_countOf 22 = .ok (.iaload, 1) := by decide +kernel
theorem dX10_countOf_23 : decode cX10_countOf 23 = .ok (.if_icmp .ge 28, 3) := by decide +kernel
theorem dX10_countOf_26 : decode cX10_countOf 26 = .ok (.iload_n 2, 1) := by decide +kernel
theorem dX10_countOf_27 : decode cX10_countOf 27 = .ok (.aload_n 0, 1) := by decide +kernel
theorem dX10_countOf_28 : decode cX10_countOf 28 = .ok (.iload_n 3, 1) := by decide +kernel
theorem dX10_countOf_29 : decode cX10_countOf 29 = .ok (.iload 4, 2) := by decide +kernel
theorem dX10_countOf_31 : decode cX10_countOf 31 = .ok (.invokevirtual 170, 3) := by decide +kernel
theorem dX10_countOf_34 : decode cX10_countOf 34 = .ok (.iload_n 1, 1) := by decide +kernel
theorem dX10_countOf_35 : decode cX10_countOf 35 = .ok (.if_icmp .ne 7, 3) := by decide +kernel
theorem dX10_countOf_38 : decode cX10_countOf 38 = .ok (.iconst 1, 1) := by decide +kernel
theorem dX10_countOf_39 : decode cX10_countOf 39 = .ok (.goto 4, 3) := by decide +kernel
theorem dX10_countOf_42 : decode cX10_countOf 42 = .ok (.iconst 0, 1) := by decide +kernel
theorem dX10_countOf_43 : decode cX10_countOf 43 = .ok (.iadd, 1) := by decide +kernel
theorem dX10_countOf_44 : decode cX10_countOf 44 = .ok (.istore_n 2, 1) := by decide +kernel
theorem dX10_countOf_45 : decode cX10_countOf 45 = .ok (.iinc 4 1, 3) := by decide +kernel
theorem dX10_countOf_48 : decode cX10_countOf 48 = .ok (.goto (-33), 3) := by decide +kernel
theorem dX10_countOf_51 : decode cX10_countOf 51 = .ok (.iinc 3 1, 3) := by decide +kernel
theorem dX10_countOf_54 : decode cX10_countOf 54 = .ok (.goto (-50), 3) := by decide +kernel
theorem dX10_countOf_57 : decode cX10_countOf 57 = .ok (.iload_n 2, 1) := by decide +kernel
theorem dX10_countOf_58 : decode cX10_countOf 58 = .ok (.ireturn, 1) := by decide +kernel
theorem dX10_allSigns_0 : decode cX10_allSigns 0 = .ok (.iconst 0, 1) := by decide +kernel
theorem dX10_allSigns_1 : decode cX10_allSigns 1 = .ok (.istore_n 1, 1) := by decide +kernel
theorem dX10_allSigns_2 : decode cX10_allSigns 2 = .ok (.iconst 0, 1) := by decide +kernel
theorem dX10_allSigns_3 : decode cX10_allSigns 3 = .ok (.istore_n 2, 1) := by decide +kernel
theorem dX10_allSigns_4 : decode cX10_allSigns 4 = .ok (.iload_n 2, 1) := by decide +kernel
theorem dX10_allSigns_5 : decode cX10_allSigns 5 = .ok (.aload_n 0, 1) := by decide +kernel
theorem dX10_allSigns_6 : decode cX10_allSigns 6 = .ok (.getfield 164, 3) := by decide +kernel
theorem dX10_allSigns_9 : decode cX10_allSigns 9 = .ok (.if_icmp .ge 44, 3) := by decide +kernel
theorem dX10_allSigns_12 : decode cX10_allSigns 12 = .ok (.iconst 0, 1) := by decide +kernel
theorem dX10_allSigns_13 : decode cX10_allSigns 13 = .ok (.istore_n 3, 1) := by decide +kernel
theorem dX10_allSigns_14 : decode cX10_allSigns 14 = .ok (.iload_n 3, 1) := by decide +kernel
theorem dX10_allSigns_15 : decode cX10_allSigns 15 = .ok (.aload_n 0, 1) := by decide +kernel
theorem dX10_allSigns_16 : decode cX10_allSigns 16 = .ok (.getfield 20, 3) := by decide +kernel
theorem dX10_allSigns_19 : decode cX10_allSigns 19 = .ok (.iload_n 2, 1) := by decide +kernel
theorem dX10_allSigns_20 : decode cX10_allSigns 20 = .ok (.iaload, 1) := by decide +kernel
theorem dX10_allSigns_21 : decode cX10_allSigns 21 = .ok (.if_icmp .ge 26, 3) := by decide +kernel
theorem dX10_allSigns_24 : decode cX10_allSigns 24 = .ok (.iload_n 1, 1) := by decide +kernel
theorem dX10_allSigns_25 : decode cX10_allSigns 25 = .ok (.aload_n 0, 1) := by decide +kernel
theorem dX10_allSigns_26 : decode cX10_allSigns 26 = .ok (.iload_n 2, 1) := by decide +kernel
theorem dX10_allSigns_27 : decode cX10_allSigns 27 = .ok (.iload_n 3, 1) := by decide +kernel
theorem dX10_allSigns_28 : decode cX10_allSigns 28 = .ok (.invokevirtual 170, 3) := by decide +kernel
theorem dX10_allSigns_31 : decode cX10_allSigns 31 = .ok (.ifCond .lt 7, 3) := by decide +kernel
theorem dX10_allSigns_34 : decode cX10_allSigns 34 = .ok (.iconst 1, 1) := by decide +kernel
theorem dX10_allSigns_35 : decode cX10_allSigns 35 = .ok (.goto 4, 3) := by decide +kernel
theorem dX10_allSigns_38 : decode cX10_allSigns 38 = .ok (.iconst 0, 1) := by decide +kernel
theorem dX10_allSigns_39 : decode cX10_allSigns 39 = .ok (.iadd, 1) := by decide +kernel
theorem dX10_allSigns_40 : decode cX10_allSigns 40 = .ok (.istore_n 1, 1) := by decide +kernel
theorem dX10_allSigns_41 : decode cX10_allSigns 41 = .ok (.iinc 3 1, 3) := by decide +kernel
theorem dX10_allSigns_44 : decode cX10_allSigns 44 = .ok (.goto (-30), 3) := by decide +kernel
theorem dX10_allSigns_47 : decode cX10_allSigns 47 = .ok (.iinc 2 1, 3) := by decide +kernel
theorem dX10_allSigns_50 : decode cX10_allSigns 50 = .ok (.goto (-46), 3) := by decide +kernel
theorem dX10_allSigns_53 : decode cX10_allSigns 53 = .ok (.iload_n 1, 1) := by decide +kernel
theorem dX10_allSigns_54 : decode cX10_allSigns 54 = .ok (.ireturn, 1) := by decide +kernel
theorem dX10_counted_0 : decode cX10_counted 0 = .ok (.aload_n 0, 1) := by decide +kernel
theorem dX10_counted_1 : decode cX10_counted 1 = .ok (.iload_n 1, 1) := by decide +kernel
theorem dX10_counted_2 : decode cX10_counted 2 = .ok (.invokevirtual 184, 3) := by decide +kernel
theorem dX10_counted_5 : decode cX10_counted 5 = .ok (.ifCond .eq 11, 3) := by decide +kernel
theorem dX10_counted_8 : decode cX10_counted 8 = .ok (.aload_n 0, 1) := by decide +kernel
theorem dX10_counted_9 : decode cX10_counted 9 = .ok (.iload_n 1, 1) := by decide +kernel
theorem dX10_counted_10 : decode cX10_counted 10 = .ok (.invokevirtual 187, 3) := by decide +kernel
theorem dX10_counted_13 : decode cX10_counted 13 = .ok (.goto 4, 3) := by decide +kernel
theorem dX10_counted_16 : decode cX10_counted 16 = .ok (.iconst (-1), 1) := by decide +kernel
theorem dX10_counted_17 : decode cX10_counted 17 = .ok (.ireturn, 1) := by decide +kernel
theorem dX10_besides_0 : decode cX10_besides 0 = .ok (.iconst 0, 1) := by decide +kernel
theorem dX10_besides_1 : decode cX10_besides 1 = .ok (.istore_n 3, 1) := by decide +kernel
theorem dX10_besides_2 : decode cX10_besides 2 = .ok (.iconst 0, 1) := by decide +kernel
theorem dX10_besides_3 : decode cX10_besides 3 = .ok (.istore 4, 2) := by decide +kernel
theorem dX10_besides_5 : decode cX10_besides 5 = .ok (.iload 4, 2) := by decide +kernel
theorem dX10_besides_7 : decode cX10_besides 7 = .ok (.aload_n 0, 1) := by decide +kernel
theorem dX10_besides_8 : decode cX10_besides 8 = .ok (.getfield 164, 3) := by decide +kernel
theorem dX10_besides_11 : decode cX10_besides 11 = .ok (.if_icmp .ge 86, 3) := by decide +kernel
theorem dX10_besides_14 : decode cX10_besides 14 = .ok (.iconst 1, 1) := by decide +kernel
theorem dX10_besides_15 : decode cX10_besides 15 = .ok (.istore 5, 2) := by decide +kernel
theorem dX10_besides_17 : decode cX10_besides 17 = .ok (.iload 5, 2) := by decide +kernel
theorem dX10_besides_19 : decode cX10_besides 19 = .ok (.aload_n 0, 1) := by decide +kernel
theorem dX10_besides_20 : decode cX10_besides 20 = .ok (.getfield 20, 3) := by decide +kernel
theorem dX10_besides_23 : decode cX10_besides 23 = .ok (.iload 4, 2) := by decide +kernel
theorem dX10_besides_25 : decode cX10_besides 25 = .ok (.iaload, 1) := by decide +kernel
theorem dX10_besides_26 : decode cX10_besides 26 = .ok (.if_icmp .ge 65, 3) := by decide +kernel
theorem dX10_besides_29 : decode cX10_besides 29 = .ok (.aload_n 0, 1) := by decide +kernel
theorem dX10_besides_30 : decode cX10_besides 30 = .ok (.iload 4, 2) := by decide +kernel
theorem dX10_besides_32 : decode cX10_besides 32 = .ok (.iload 5, 2) := by decide +kernel
theorem dX10_besides_34 : decode cX10_besides 34 = .ok (.iconst 1, 1) := by decide +kernel
theorem dX10_besides_35 : decode cX10_besides 35 = .ok (.isub, 1) := by decide +kernel
theorem dX10_besides_36 : decode cX10_besides 36 = .ok (.invokevirtual 170, 3) := by decide +kernel
theorem dX10_besides_39 : decode cX10_besides 39 = .ok (.istore 6, 2) := by decide +kernel
theorem dX10_besides_41 : decode cX10_besides 41 = .ok (.aload_n 0, 1) := by decide +kernel
theorem dX10_besides_42 : decode cX10_besides 42 = .ok (.iload 4, 2) := by decide +kernel
theorem dX10_besides_44 : decode cX10_besides 44 = .ok (.iload 5, 2) := by decide +kernel
theorem dX10_besides_46 : decode cX10_besides 46 = .ok (.invokevirtual 170, 3) := by decide +kernel
theorem dX10_besides_49 : decode cX10_besides 49 = .ok (.istore 7, 2) := by decide +kernel
theorem dX10_besides_51 : decode cX10_besides 51 = .ok (.iload_n 3, 1) := by decide +kernel
theorem dX10_besides_52 : decode cX10_besides 52 = .ok (.iload 6, 2) := by decide +kernel
theorem dX10_besides_54 : decode cX10_besides 54 = .ok (.ifCond .lt 28, 3) := by decide +kernel
theorem dX10_besides_57 : decode cX10_besides 57 = .ok (.iload 7, 2) := by decide +kernel
theorem dX10_besides_59 : decode cX10_besides 59 = .ok (.ifCond .lt 23, 3) := by decide +kernel
theorem dX10_besides_62 : decode cX10_besides 62 = .ok (.iload_n 1, 1) := by decide +kernel
theorem dX10_besides_63 : decode cX10_besides 63 = .ok (.ifCond .lt 15, 3) := by decide +kernel
theorem dX10_besides_66 : decode cX10_besides 66 = .ok (.iload 6, 2) := by decide +kernel
theorem dX10_besides_68 : decode cX10_besides 68 = .ok (.iload_n 1, 1) := by decide +kernel
theorem dX10_besides_69 : decode cX10_besides 69 = .ok (.if_icmp .ne 13, 3) := by decide +kernel
theorem dX10_besides_72 : decode cX10_besides 72 = .ok (.iload 7, 2) := by decide +kernel
theorem dX10_besides_74 : decode cX10_besides 74 = .ok (.iload_n 2, 1) := by decide +kernel
theorem dX10_besides_75 : decode cX10_besides 75 = .ok (.if_icmp .ne 7, 3) := by decide +kernel
theorem dX10_besides_78 : decode cX10_besides 78 = .ok (.iconst 1, 1) := by decide +kernel
theorem dX10_besides_79 : decode cX10_besides 79 = .ok (.goto 4, 3) := by decide +kernel
theorem dX10_besides_82 : decode cX10_besides 82 = .ok (.iconst 0, 1) := by decide +kernel
theorem dX10_besides_83 : decode cX10_besides 83 = .ok (.iadd, 1) := by decide +kernel
theorem dX10_besides_84 : decode cX10_besides 84 = .ok (.istore_n 3, 1) := by decide +kernel
theorem dX10_besides_85 : decode cX10_besides 85 = .ok (.iinc 5 1, 3) := by decide +kernel
theorem dX10_besides_88 : decode cX10_besides 88 = .ok (.goto (-71), 3) := by decide +kernel
theorem dX10_besides_91 : decode cX10_besides 91 = .ok (.iinc 4 1, 3) := by decide +kernel
theorem dX10_besides_94 : decode cX10_besides 94 = .ok (.goto (-89), 3) := by decide +kernel
theorem dX10_besides_97 : decode cX10_besides 97 = .ok (.iload_n 3, 1) := by decide +kernel
theorem dX10_besides_98 : decode cX10_besides 98 = .ok (.ireturn, 1) := by decide +kernel
theorem dX10_beside_0 : decode cX10_beside 0 = .ok (.aload_n 0, 1) := by decide +kernel
theorem dX10_beside_1 : decode cX10_beside 1 = .ok (.iload_n 1, 1) := by decide +kernel
theorem dX10_beside_2 : decode cX10_beside 2 = .ok (.invokevirtual 184, 3) := by decide +kernel
theorem dX10_beside_5 : decode cX10_beside 5 = .ok (.ifCond .eq 20, 3) := by decide +kernel
theorem dX10_beside_8 : decode cX10_beside 8 = .ok (.aload_n 0, 1) := by decide +kernel
theorem dX10_beside_9 : decode cX10_beside 9 = .ok (.iload_n 2, 1) := by decide +kernel
theorem dX10_beside_10 : decode cX10_beside 10 = .ok (.invokevirtual 184, 3) := by decide +kernel
theorem dX10_beside_13 : decode cX10_beside 13 = .ok (.ifCond .eq 12, 3) := by decide +kernel
theorem dX10_beside_16 : decode cX10_beside 16 = .ok (.aload_n 0, 1) := by decide +kernel
theorem dX10_beside_17 : decode cX10_beside 17 = .ok (.iload_n 1, 1) := by decide +kernel
theorem dX10_beside_18 : decode cX10_beside 18 = .ok (.iload_n 2, 1) := by decide +kernel
theorem dX10_beside_19 : decode cX10_beside 19 = .ok (.invokevirtual 190, 3) := by decide +kernel
theorem dX10_beside_22 : decode cX10_beside 22 = .ok (.goto 4, 3) := by decide +kernel
theorem dX10_beside_25 : decode cX10_beside 25 = .ok (.iconst (-1), 1) := by decide +kernel
theorem dX10_beside_26 : decode cX10_beside 26 = .ok (.ireturn, 1) := by decide +kernel
theorem dX10_chance_0 : decode cX10_chance 0 = .ok (.aload_n 0, 1) := by decide +kernel
theorem dX10_chance_1 : decode cX10_chance 1 = .ok (.iload_n 1, 1) := by decide +kernel
theorem dX10_chance_2 : decode cX10_chance 2 = .ok (.invokevirtual 184, 3) := by decide +kernel
theorem dX10_chance_5 : decode cX10_chance 5 = .ok (.ifCond .eq 21, 3) := by decide +kernel
theorem dX10_chance_8 : decode cX10_chance 8 = .ok (.aload_n 0, 1) := by decide +kernel
theorem dX10_chance_9 : decode cX10_chance 9 = .ok (.iload_n 2, 1) := by decide +kernel
theorem dX10_chance_10 : decode cX10_chance 10 = .ok (.invokevirtual 184, 3) := by decide +kernel
theorem dX10_chance_13 : decode cX10_chance 13 = .ok (.ifCond .eq 13, 3) := by decide +kernel
theorem dX10_chance_16 : decode cX10_chance 16 = .ok (.iload_n 3, 1) := by decide +kernel
theorem dX10_chance_17 : decode cX10_chance 17 = .ok (.i2l, 1) := by decide +kernel
theorem dX10_chance_18 : decode cX10_chance 18 = .ok (.lconst 0, 1) := by decide +kernel
theorem dX10_chance_19 : decode cX10_chance 19 = .ok (.lconst 1, 1) := by decide +kernel
theorem dX10_chance_20 : decode cX10_chance 20 = .ok (.invokestatic 138, 3) := by decide +kernel
theorem dX10_chance_23 : decode cX10_chance 23 = .ok (.ifCond .ne 7, 3) := by decide +kernel
theorem dX10_chance_26 : decode cX10_chance 26 = .ok (.ldc2_w 193, 3) := by decide +kernel
theorem dX10_chance_29 : decode cX10_chance 29 = .ok (.lreturn, 1) := by decide +kernel
theorem dX10_chance_30 : decode cX10_chance 30 = .ok (.aload_n 0, 1) := by decide +kernel
theorem dX10_chance_31 : decode cX10_chance 31 = .ok (.invokevirtual 195, 3) := by decide +kernel
theorem dX10_chance_34 : decode cX10_chance 34 = .ok (.i2l, 1) := by decide +kernel
theorem dX10_chance_35 : decode cX10_chance 35 = .ok (.lstore 4, 2) := by decide +kernel
theorem dX10_chance_37 : decode cX10_chance 37 = .ok (.lload 4, 2) := by decide +kernel
theorem dX10_chance_39 : decode cX10_chance 39 = .ok (.ldc2_w 198, 3) := by decide +kernel
theorem dX10_chance_42 : decode cX10_chance 42 = .ok (.lcmp, 1) := by decide +kernel
theorem dX10_chance_43 : decode cX10_chance 43 = .ok (.ifCond .ge 6, 3) := by decide +kernel
theorem dX10_chance_46 : decode cX10_chance 46 = .ok (.iload_n 3, 1) := by decide +kernel
theorem dX10_chance_47 : decode cX10_chance 47 = .ok (.i2l, 1) := by decide +kernel
theorem dX10_chance_48 : decode cX10_chance 48 = .ok (.lreturn, 1) := by decide +kernel
theorem dX10_chance_49 : decode cX10_chance 49 = .ok (.aload_n 0, 1) := by decide +kernel
theorem dX10_chance_50 : decode cX10_chance 50 = .ok (.bipush (-4), 2) := by decide +kernel
theorem dX10_chance_52 : decode cX10_chance 52 = .ok (.bipush (-4), 2) := by decide +kernel
theorem dX10_chance_54 : decode cX10_chance 54 = .ok (.invokevirtual 190, 3) := by decide +kernel
theorem dX10_chance_57 : decode cX10_chance 57 = .ok (.i2l, 1) := by decide +kernel
theorem dX10_chance_58 : decode cX10_chance 58 = .ok (.aload_n 0, 1) := by decide +kernel
theorem dX10_chance_59 : decode cX10_chance 59 = .ok (.iload_n 1, 1) := by decide +kernel
theorem dX10_chance_60 : decode cX10_chance 60 = .ok (.invokevirtual 187, 3) := by decide +kernel
theorem dX10_chance_63 : decode cX10_chance 63 = .ok (.i2l, 1) := by decide +kernel
theorem dX10_chance_64 : decode cX10_chance 64 = .ok (.lmul, 1) := by decide +kernel
theorem dX10_chance_65 : decode cX10_chance 65 = .ok (.iload_n 1, 1) := by decide +kernel
theorem dX10_chance_66 : decode cX10_chance 66 = .ok (.iload_n 2, 1) := by decide +kernel
theorem dX10_chance_67 : decode cX10_chance 67 = .ok (.if_icmp .ne 13, 3) := by decide +kernel
theorem dX10_chance_70 : decode cX10_chance 70 = .ok (.aload_n 0, 1) := by decide +kernel
theorem dX10_chance_71 : decode cX10_chance 71 = .ok (.iload_n 1, 1) := by decide +kernel
theorem dX10_chance_72 : decode cX10_chance 72 = .ok (.invokevirtual 187, 3) := by decide +kernel
theorem dX10_chance_75 : decode cX10_chance 75 = .ok (.iconst 1, 1) := by decide +kernel
theorem dX10_chance_76 : decode cX10_chance 76 = .ok (.isub, 1) := by decide +kernel
theorem dX10_chance_77 : decode cX10_chance 77 = .ok (.goto 8, 3) := by decide +kernel
theorem dX10_chance_80 : decode cX10_chance 80 = .ok (.aload_n 0, 1) := by decide +kernel
theorem dX10_chance_81 : decode cX10_chance 81 = .ok (.iload_n 2, 1) := by decide +kernel
theorem dX10_chance_82 : decode cX10_chance 82 = .ok (.invokevirtual 187, 3) := by decide +kernel
theorem dX10_chance_85 : decode cX10_chance 85 = .ok (.i2l, 1) := by decide +kernel
theorem dX10_chance_86 : decode cX10_chance 86 = .ok (.lmul, 1) := by decide +kernel
theorem dX10_chance_87 : decode cX10_chance 87 = .ok (.lstore 6, 2) := by decide +kernel
theorem dX10_chance_89 : decode cX10_chance 89 = .ok (.lload 4, 2) := by decide +kernel
theorem dX10_chance_91 : decode cX10_chance 91 = .ok (.lload 4, 2) := by decide +kernel
theorem dX10_chance_93 : decode cX10_chance 93 = .ok (.lconst 1, 1) := by decide +kernel
theorem dX10_chance_94 : decode cX10_chance 94 = .ok (.lsub, 1) := by decide +kernel
theorem dX10_chance_95 : decode cX10_chance 95 = .ok (.lmul, 1) := by decide +kernel
theorem dX10_chance_96 : decode cX10_chance 96 = .ok (.lstore 8, 2) := by decide +kernel
theorem dX10_chance_98 : decode cX10_chance 98 = .ok (.lload 6, 2) := by decide +kernel
theorem dX10_chance_100 : decode cX10_chance 100 = .ok (.lstore 10, 2) := by decide +kernel
theorem dX10_chance_102 : decode cX10_chance 102 = .ok (.lload 8, 2) := by decide +kernel
theorem dX10_chance_104 : decode cX10_chance 104 = .ok (.lstore 12, 2) := by decide +kernel
theorem dX10_chance_106 : decode cX10_chance 106 = .ok (.lload 12, 2) := by decide +kernel
theorem dX10_chance_108 : decode cX10_chance 108 = .ok (.lconst 0, 1) := by decide +kernel
theorem dX10_chance_109 : decode cX10_chance 109 = .ok (.lcmp, 1) := by decide +kernel
theorem dX10_chance_110 : decode cX10_chance 110 = .ok (.ifCond .eq 21, 3) := by decide +kernel
theorem dX10_chance_113 : decode cX10_chance 113 = .ok (.lload 10, 2) := by decide +kernel
theorem dX10_chance_115 : decode cX10_chance 115 = .ok (.lload 12, 2) := by decide +kernel
theorem dX10_chance_117 : decode cX10_chance 117 = .ok (.lrem, 1) := by decide +kernel
theorem dX10_chance_118 : decode cX10_chance 118 = .ok (.lstore 14, 2) := by decide +kernel
theorem dX10_chance_120 : decode cX10_chance 120 = .ok (.lload 12, 2) := by decide +kernel
theorem dX10_chance_122 : decode cX10_chance 122 = .ok (.lstore 10, 2) := by decide +kernel
theorem dX10_chance_124 : decode cX10_chance 124 = .ok (.lload 14, 2) := by decide +kernel
theorem dX10_chance_126 : decode cX10_chance 126 = .ok (.lstore 12, 2) := by decide +kernel
theorem dX10_chance_128 : decode cX10_chance 128 = .ok (.goto (-22), 3) := by decide +kernel
theorem dX10_chance_131 : decode cX10_chance 131 = .ok (.iload_n 3, 1) := by decide +kernel
theorem dX10_chance_132 : decode cX10_chance 132 = .ok (.ifCond .ne 11, 3) := by decide +kernel
theorem dX10_chance_135 : decode cX10_chance 135 = .ok (.lload 6, 2) := by decide +kernel
theorem dX10_chance_137 : decode cX10_chance 137 = .ok (.lload 10, 2) := by decide +kernel
theorem dX10_chance_139 : decode cX10_chance 139 = .ok (.ldiv, 1) := by decide +kernel
theorem dX10_chance_140 : decode cX10_chance 140 = .ok (.goto 8, 3) := by decide +kernel
theorem dX10_chance_143 : decode cX10_chance 143 = .ok (.lload 8, 2) := by decide +kernel
theorem dX10_chance_145 : decode cX10_chance 145 = .ok (.lload 10, 2) := by decide +kernel
theorem dX10_chance_147 : decode cX10_chance 147 = .ok (.ldiv, 1) := by decide +kernel
theorem dX10_chance_148 : decode cX10_chance 148 = .ok (.lreturn, 1) := by decide +kernel
theorem dX10_edgeSum_0 : decode cX10_edgeSum 0 = .ok (.aload_n 0, 1) := by decide +kernel
theorem dX10_edgeSum_1 : decode cX10_edgeSum 1 = .ok (.invokevirtual 181, 3) := by decide +kernel
theorem dX10_edgeSum_4 : decode cX10_edgeSum 4 = .ok (.iconst 0, 1) := by decide +kernel
theorem dX10_edgeSum_5 : decode cX10_edgeSum 5 = .ok (.istore_n 2, 1) := by decide +kernel
theorem dX10_edgeSum_6 : decode cX10_edgeSum 6 = .ok (.iload_n 2, 1) := by decide +kernel
theorem dX10_edgeSum_7 : decode cX10_edgeSum 7 = .ok (.bipush 24, 2) := by decide +kernel
theorem dX10_edgeSum_9 : decode cX10_edgeSum 9 = .ok (.if_icmp .ge 16, 3) := by decide +kernel
theorem dX10_edgeSum_12 : decode cX10_edgeSum 12 = .ok (.aload_n 0, 1) := by decide +kernel
theorem dX10_edgeSum_13 : decode cX10_edgeSum 13 = .ok (.getfield 39, 3) := by decide +kernel
theorem dX10_edgeSum_16 : decode cX10_edgeSum 16 = .ok (.iload_n 2, 1) := by decide +kernel
theorem dX10_edgeSum_17 : decode cX10_edgeSum 17 = .ok (.iconst 0, 1) := by decide +kernel
theorem dX10_edgeSum_18 : decode cX10_edgeSum 18 = .ok (.iastore, 1) := by decide +kernel
theorem dX10_edgeSum_19 : decode cX10_edgeSum 19 = .ok (.iinc 2 1, 3) := by decide +kernel
theorem dX10_edgeSum_22 : decode cX10_edgeSum 22 = .ok (.goto (-16), 3) := by decide +kernel
theorem dX10_edgeSum_25 : decode cX10_edgeSum 25 = .ok (.iconst 0, 1) := by decide +kernel
theorem dX10_edgeSum_26 : decode cX10_edgeSum 26 = .ok (.istore_n 2, 1) := by decide +kernel
theorem dX10_edgeSum_27 : decode cX10_edgeSum 27 = .ok (.iload_n 2, 1) := by decide +kernel
theorem dX10_edgeSum_28 : decode cX10_edgeSum 28 = .ok (.aload_n 0, 1) := by decide +kernel
theorem dX10_edgeSum_29 : decode cX10_edgeSum 29 = .ok (.getfield 167, 3) := by decide +kernel
theorem dX10_edgeSum_32 : decode cX10_edgeSum 32 = .ok (.if_icmp .ge 48, 3) := by decide +kernel
theorem dX10_edgeSum_35 : decode cX10_edgeSum 35 = .ok (.aload_n 0, 1) := by decide +kernel
theorem dX10_edgeSum_36 : decode cX10_edgeSum 36 = .ok (.getfield 35, 3) := by decide +kernel
theorem dX10_edgeSum_39 : decode cX10_edgeSum 39 = .ok (.iload_n 2, 1) := by decide +kernel
theorem dX10_edgeSum_40 : decode cX10_edgeSum 40 = .ok (.baload, 1) := by decide +kernel
theorem dX10_edgeSum_41 : decode cX10_edgeSum 41 = .ok (.ifCond .eq 33, 3) := by decide +kernel
theorem dX10_edgeSum_44 : decode cX10_edgeSum 44 = .ok (.aload_n 0, 1) := by decide +kernel
theorem dX10_edgeSum_45 : decode cX10_edgeSum 45 = .ok (.getfield 39, 3) := by decide +kernel
theorem dX10_edgeSum_48 : decode cX10_edgeSum 48 = .ok (.aload_n 0, 1) := by decide +kernel
theorem dX10_edgeSum_49 : decode cX10_edgeSum 49 = .ok (.iload_n 2, 1) := by decide +kernel
theorem dX10_edgeSum_50 : decode cX10_edgeSum 50 = .ok (.iload_n 1, 1) := by decide +kernel
theorem dX10_edgeSum_51 : decode cX10_edgeSum 51 = .ok (.ifCond .eq 14, 3) := by decide +kernel
theorem dX10_edgeSum_54 : decode cX10_edgeSum 54 = .ok (.aload_n 0, 1) := by decide +kernel
theorem dX10_edgeSum_55 : decode cX10_edgeSum 55 = .ok (.getfield 32, 3) := by decide +kernel
theorem dX10_edgeSum_58 : decode cX10_edgeSum 58 = .ok (.iload_n 2, 1) := by decide +kernel
theorem dX10_edgeSum_59 : decode cX10_edgeSum 59 = .ok (.iaload, 1) := by decide +kernel
theorem dX10_edgeSum_60 : decode cX10_edgeSum 60 = .ok (.iconst 1, 1) := by decide +kernel
theorem dX10_edgeSum_61 : decode cX10_edgeSum 61 = .ok (.isub, 1) := by decide +kernel
theorem dX10_edgeSum_62 : decode cX10_edgeSum 62 = .ok (.goto 4, 3) := by decide +kernel
theorem dX10_edgeSum_65 : decode cX10_edgeSum 65 = .ok (.iconst 0, 1) := by decide +kernel
theorem dX10_edgeSum_66 : decode cX10_edgeSum 66 = .ok (.invokevirtual 200, 3) := by decide +kernel
theorem dX10_edgeSum_69 : decode cX10_edgeSum 69 = .ok (.dup2, 1) := by decide +kernel
theorem dX10_edgeSum_70 : decode cX10_edgeSum 70 = .ok (.iaload, 1) := by decide +kernel
theorem dX10_edgeSum_71 : decode cX10_edgeSum 71 = .ok (.iconst 1, 1) := by decide +kernel
theorem dX10_edgeSum_72 : decode cX10_edgeSum 72 = .ok (.iadd, 1) := by decide +kernel
theorem dX10_edgeSum_73 : decode cX10_edgeSum 73 = .ok (.iastore, 1) := by decide +kernel
theorem dX10_edgeSum_74 : decode cX10_edgeSum 74 = .ok (.iinc 2 1, 3) := by decide +kernel
theorem dX10_edgeSum_77 : decode cX10_edgeSum 77 = .ok (.goto (-50), 3) := by decide +kernel
theorem dX10_edgeSum_80 : decode cX10_edgeSum 80 = .ok (.iconst 0, 1) := by decide +kernel
theorem dX10_edgeSum_81 : decode cX10_edgeSum 81 = .ok (.istore_n 2, 1) := by decide +kernel
theorem dX10_edgeSum_82 : decode cX10_edgeSum 82 = .ok (.iconst 0, 1) := by decide +kernel
theorem dX10_edgeSum_83 : decode cX10_edgeSum 83 = .ok (.istore_n 3, 1) := by decide +kernel
theorem dX10_edgeSum_84 : decode cX10_edgeSum 84 = .ok (.iload_n 3, 1) := by decide +kernel
theorem dX10_edgeSum_85 : decode cX10_edgeSum 85 = .ok (.bipush 24, 2) := by decide +kernel
theorem dX10_edgeSum_87 : decode cX10_edgeSum 87 = .ok (.if_icmp .ge 25, 3) := by decide +kernel
theorem dX10_edgeSum_90 : decode cX10_edgeSum 90 = .ok (.iload_n 2, 1) := by decide +kernel
theorem dX10_edgeSum_91 : decode cX10_edgeSum 91 = .ok (.aload_n 0, 1) := by decide +kernel
theorem dX10_edgeSum_92 : decode cX10_edgeSum 92 = .ok (.getfield 39, 3) := by decide +kernel
theorem dX10_edgeSum_95 : decode cX10_edgeSum 95 = .ok (.iload_n 3, 1) := by decide +kernel
theorem dX10_edgeSum_96 : decode cX10_edgeSum 96 = .ok (.iaload, 1) := by decide +kernel
theorem dX10_edgeSum_97 : decode cX10_edgeSum 97 = .ok (.aload_n 0, 1) := by decide +kernel
theorem dX10_edgeSum_98 : decode cX10_edgeSum 98 = .ok (.getfield 39, 3) := by decide +kernel
theorem dX10_edgeSum_101 : decode cX10_edgeSum 101 = .ok (.iload_n 3, 1) := by decide +kernel
theorem dX10_edgeSum_102 : decode cX10_edgeSum 102 = .ok (.iaload, 1) := by decide +kernel
theorem dX10_edgeSum_103 : decode cX10_edgeSum 103 = .ok (.imul, 1) := by decide +kernel
theorem dX10_edgeSum_104 : decode cX10_edgeSum 104 = .ok (.iadd, 1) := by decide +kernel
theorem dX10_edgeSum_105 : decode cX10_edgeSum 105 = .ok (.istore_n 2, 1) := by decide +kernel
theorem dX10_edgeSum_106 : decode cX10_edgeSum 106 = .ok (.iinc 3 1, 3) := by decide +kernel
theorem dX10_edgeSum_109 : decode cX10_edgeSum 109 = .ok (.goto (-25), 3) := by decide +kernel
theorem dX10_edgeSum_112 : decode cX10_edgeSum 112 = .ok (.iload_n 2, 1) := by decide +kernel
theorem dX10_edgeSum_113 : decode cX10_edgeSum 113 = .ok (.ireturn, 1) := by decide +kernel
theorem dX10_runs_0 : decode cX10_runs 0 = .ok (.iload_n 1, 1) := by decide +kernel
theorem dX10_runs_1 : decode cX10_runs 1 = .ok (.i2l, 1) := by decide +kernel
theorem dX10_runs_2 : decode cX10_runs 2 = .ok (.lconst 0, 1) := by decide +kernel
theorem dX10_runs_3 : decode cX10_runs 3 = .ok (.ldc2_w 198, 3) := by decide +kernel
theorem dX10_runs_6 : decode cX10_runs 6 = .ok (.invokestatic 138, 3) := by decide +kernel
theorem dX10_runs_9 : decode cX10_runs 9 = .ok (.ifCond .ne 6, 3) := by decide +kernel
theorem dX10_runs_12 : decode cX10_runs 12 = .ok (.bipush (-10), 2) := by decide +kernel
theorem dX10_runs_14 : decode cX10_runs 14 = .ok (.ireturn, 1) := by decide +kernel
theorem dX10_runs_15 : decode cX10_runs 15 = .ok (.aload_n 0, 1) := by decide +kernel
theorem dX10_runs_16 : decode cX10_runs 16 = .ok (.iconst 0, 1) := by decide +kernel
theorem dX10_runs_17 : decode cX10_runs 17 = .ok (.invokevirtual 203, 3) := by decide +kernel
theorem dX10_runs_20 : decode cX10_runs 20 = .ok (.istore_n 2, 1) := by decide +kernel
theorem dX10_runs_21 : decode cX10_runs 21 = .ok (.aload_n 0, 1) := by decide +kernel
theorem dX10_runs_22 : decode cX10_runs 22 = .ok (.iconst 1, 1) := by decide +kernel
theorem dX10_runs_23 : decode cX10_runs 23 = .ok (.invokevirtual 203, 3) := by decide +kernel
theorem dX10_runs_26 : decode cX10_runs 26 = .ok (.istore_n 3, 1) := by decide +kernel
theorem dX10_runs_27 : decode cX10_runs 27 = .ok (.iload_n 1, 1) := by decide +kernel
theorem dX10_runs_28 : decode cX10_runs 28 = .ok (.iconst 1, 1) := by decide +kernel
theorem dX10_runs_29 : decode cX10_runs 29 = .ok (.if_icmp .ne 7, 3) := by decide +kernel
theorem dX10_runs_32 : decode cX10_runs 32 = .ok (.iload_n 2, 1) := by decide +kernel
theorem dX10_runs_33 : decode cX10_runs 33 = .ok (.goto 31, 3) := by decide +kernel
theorem dX10_runs_36 : decode cX10_runs 36 = .ok (.iload_n 1, 1) := by decide +kernel
theorem dX10_runs_37 : decode cX10_runs 37 = .ok (.iconst 2, 1) := by decide +kernel
theorem dX10_runs_38 : decode cX10_runs 38 = .ok (.if_icmp .ne 7, 3) := by decide +kernel
theorem dX10_runs_41 : decode cX10_runs 41 = .ok (.iload_n 3, 1) := by decide +kernel
theorem dX10_runs_42 : decode cX10_runs 42 = .ok (.goto 22, 3) := by decide +kernel
theorem dX10_runs_45 : decode cX10_runs 45 = .ok (.iload_n 3, 1) := by decide +kernel
theorem dX10_runs_46 : decode cX10_runs 46 = .ok (.iload_n 2, 1) := by decide +kernel
theorem dX10_runs_47 : decode cX10_runs 47 = .ok (.if_icmp .le 7, 3) := by decide +kernel
theorem dX10_runs_50 : decode cX10_runs 50 = .ok (.iconst 1, 1) := by decide +kernel
theorem dX10_runs_51 : decode cX10_runs 51 = .ok (.goto 13, 3) := by decide +kernel
theorem dX10_runs_54 : decode cX10_runs 54 = .ok (.iload_n 3, 1) := by decide +kernel
theorem dX10_runs_55 : decode cX10_runs 55 = .ok (.iload_n 2, 1) := by decide +kernel
theorem dX10_runs_56 : decode cX10_runs 56 = .ok (.if_icmp .ge 7, 3) := by decide +kernel
theorem dX10_runs_59 : decode cX10_runs 59 = .ok (.iconst (-1), 1) := by decide +kernel
theorem dX10_runs_60 : decode cX10_runs 60 = .ok (.goto 4, 3) := by decide +kernel
theorem dX10_runs_63 : decode cX10_runs 63 = .ok (.iconst 0, 1) := by decide +kernel
theorem dX10_runs_64 : decode cX10_runs 64 = .ok (.ireturn, 1) := by decide +kernel
theorem dX10_alikeTo_0 : decode cX10_alikeTo 0 = .ok (.iconst 0, 1) := by decide +kernel
theorem dX10_alikeTo_1 : decode cX10_alikeTo 1 = .ok (.istore_n 3, 1) := by decide +kernel
theorem dX10_alikeTo_2 : decode cX10_alikeTo 2 = .ok (.iload_n 3, 1) := by decide +kernel
theorem dX10_alikeTo_3 : decode cX10_alikeTo 3 = .ok (.aload_n 0, 1) := by decide +kernel
theorem dX10_alikeTo_4 : decode cX10_alikeTo 4 = .ok (.getfield 32, 3) := by decide +kernel
theorem dX10_alikeTo_7 : decode cX10_alikeTo 7 = .ok (.iload_n 1, 1) := by decide +kernel
theorem dX10_alikeTo_8 : decode cX10_alikeTo 8 = .ok (.iaload, 1) := by decide +kernel
theorem dX10_alikeTo_9 : decode cX10_alikeTo 9 = .ok (.if_icmp .ge 24, 3) := by decide +kernel
theorem dX10_alikeTo_12 : decode cX10_alikeTo 12 = .ok (.aload_n 0, 1) := by decide +kernel
theorem dX10_alikeTo_13 : decode cX10_alikeTo 13 = .ok (.iload_n 1, 1) := by decide +kernel
theorem dX10_alikeTo_14 : decode cX10_alikeTo 14 = .ok (.iload_n 3, 1) := by decide +kernel
theorem dX10_alikeTo_15 : decode cX10_alikeTo 15 = .ok (.invokevirtual 200, 3) := by decide +kernel
theorem dX10_alikeTo_18 : decode cX10_alikeTo 18 = .ok (.aload_n 0, 1) := by decide +kernel
theorem dX10_alikeTo_19 : decode cX10_alikeTo 19 = .ok (.iload_n 2, 1) := by decide +kernel
theorem dX10_alikeTo_20 : decode cX10_alikeTo 20 = .ok (.iload_n 3, 1) := by decide +kernel
theorem dX10_alikeTo_21 : decode cX10_alikeTo 21 = .ok (.invokevirtual 200, 3) := by decide +kernel
theorem dX10_alikeTo_24 : decode cX10_alikeTo 24 = .ok (.if_icmp .ne 9, 3) := by decide +kernel
theorem dX10_alikeTo_27 : decode cX10_alikeTo 27 = .ok (.iinc 3 1, 3) := by decide +kernel
theorem dX10_alikeTo_30 : decode cX10_alikeTo 30 = .ok (.goto (-28), 3) := by decide +kernel
theorem dX10_alikeTo_33 : decode cX10_alikeTo 33 = .ok (.iload_n 3, 1) := by decide +kernel
theorem dX10_alikeTo_34 : decode cX10_alikeTo 34 = .ok (.ireturn, 1) := by decide +kernel
theorem dX10_isFirstOfItsRow_0 : decode cX10_isFirstOfItsRow 0 = .ok (.iconst 1, 1) := by decide +kernel
theorem dX10_isFirstOfItsRow_1 : decode cX10_isFirstOfItsRow 1 = .ok (.istore_n 2, 1) := by decide +kernel
theorem dX10_isFirstOfItsRow_2 : decode cX10_isFirstOfItsRow 2 = .ok (.iconst 0, 1) := by decide +kernel
theorem dX10_isFirstOfItsRow_3 : decode cX10_isFirstOfItsRow 3 = .ok (.istore_n 3, 1) := by decide +kernel
theorem dX10_isFirstOfItsRow_4 : decode cX10_isFirstOfItsRow 4 = .ok (.iload_n 3, 1) := by decide +kernel
theorem dX10_isFirstOfItsRow_5 : decode cX10_isFirstOfItsRow 5 = .ok (.iload_n 1, 1) := by decide +kernel
theorem dX10_isFirstOfItsRow_6 : decode cX10_isFirstOfItsRow 6 = .ok (.if_icmp .ge 58, 3) := by decide +kernel
theorem dX10_isFirstOfItsRow_9 : decode cX10_isFirstOfItsRow 9 = .ok (.iload_n 2, 1) := by decide +kernel
theorem dX10_isFirstOfItsRow_10 : decode cX10_isFirstOfItsRow 10 = .ok (.ifCond .eq 54, 3) := by decide +kernel
theorem dX10_isFirstOfItsRow_13 : decode cX10_isFirstOfItsRow 13 = .ok (.aload_n 0, 1) := by decide +kernel
theorem dX10_isFirstOfItsRow_14 : decode cX10_isFirstOfItsRow 14 = .ok (.getfield 35, 3) := by decide +kernel
theorem dX10_isFirstOfItsRow_17 : decode cX10_isFirstOfItsRow 17 = .ok (.iload_n 3, 1) := by decide +kernel
theorem dX10_isFirstOfItsRow_18 : decode cX10_isFirstOfItsRow 18 = .ok (.baload, 1) := by decide +kernel
theorem dX10_isFirstOfItsRow_19 : decode cX10_isFirstOfItsRow 19 = .ok (.ifCond .eq 33, 3) := by decide +kernel
theorem dX10_isFirstOfItsRow_22 : decode cX10_isFirstOfItsRow 22 = .ok (.aload_n 0, 1) := by decide +kernel
theorem dX10_isFirstOfItsRow_23 : decode cX10_isFirstOfItsRow 23 = .ok (.getfield 32, 3) := by decide +kernel
theorem dX10_isFirstOfItsRow_26 : decode cX10_isFirstOfItsRow 26 = .ok (.iload_n 3, 1) := by decide +kernel
theorem dX10_isFirstOfItsRow_27 : decode cX10_isFirstOfItsRow 27 = .ok (.iaload, 1) := by decide +kernel
theorem dX10_isFirstOfItsRow_28 : decode cX10_isFirstOfItsRow 28 = .ok (.aload_n 0, 1) := by decide +kernel
theorem dX10_isFirstOfItsRow_29 : decode cX10_isFirstOfItsRow 29 = .ok (.getfield 32, 3) := by decide +kernel
theorem dX10_isFirstOfItsRow_32 : decode cX10_isFirstOfItsRow 32 = .ok (.iload_n 1, 1) := by decide +kernel
theorem dX10_isFirstOfItsRow_33 : decode cX10_isFirstOfItsRow 33 = .ok (.iaload, 1) := by decide +kernel
theorem dX10_isFirstOfItsRow_34 : decode cX10_isFirstOfItsRow 34 = .ok (.if_icmp .ne 18, 3) := by decide +kernel
theorem dX10_isFirstOfItsRow_37 : decode cX10_isFirstOfItsRow 37 = .ok (.aload_n 0, 1) := by decide +kernel
theorem dX10_isFirstOfItsRow_38 : decode cX10_isFirstOfItsRow 38 = .ok (.iload_n 1, 1) := by decide +kernel
theorem dX10_isFirstOfItsRow_39 : decode cX10_isFirstOfItsRow 39 = .ok (.iload_n 3, 1) := by decide +kernel
theorem dX10_isFirstOfItsRow_40 : decode cX10_isFirstOfItsRow 40 = .ok (.invokevirtual 207, 3) := by decide +kernel
theorem dX10_isFirstOfItsRow_43 : decode cX10_isFirstOfItsRow 43 = .ok (.aload_n 0, 1) := by decide +kernel
theorem dX10_isFirstOfItsRow_44 : decode cX10_isFirstOfItsRow 44 = .ok (.getfield 32, 3) := by decide +kernel
theorem dX10_isFirstOfItsRow_47 : decode cX10_isFirstOfItsRow 47 = .ok (.iload_n 1, 1) := by decide +kernel
theorem dX10_isFirstOfItsRow_48 : decode cX10_isFirstOfItsRow 48 = .ok (.iaload, 1) := by decide +kernel
theorem dX10_isFirstOfItsRow_49 : decode cX10_isFirstOfItsRow 49 = .ok (.if_icmp .ge 7, 3) := by decide +kernel
theorem dX10_isFirstOfItsRow_52 : decode cX10_isFirstOfItsRow 52 = .ok (.iconst 1, 1) := by decide +kernel
theorem dX10_isFirstOfItsRow_53 : decode cX10_isFirstOfItsRow 53 = .ok (.goto 4, 3) := by decide +kernel
theorem dX10_isFirstOfItsRow_56 : decode cX10_isFirstOfItsRow 56 = .ok (.iconst 0, 1) := by decide +kernel
theorem dX10_isFirstOfItsRow_57 : decode cX10_isFirstOfItsRow 57 = .ok (.istore_n 2, 1) := by decide +kernel
theorem dX10_isFirstOfItsRow_58 : decode cX10_isFirstOfItsRow 58 = .ok (.iinc 3 1, 3) := by decide +kernel
theorem dX10_isFirstOfItsRow_61 : decode cX10_isFirstOfItsRow 61 = .ok (.goto (-57), 3) := by decide +kernel
theorem dX10_isFirstOfItsRow_64 : decode cX10_isFirstOfItsRow 64 = .ok (.iload_n 2, 1) := by decide +kernel
theorem dX10_isFirstOfItsRow_65 : decode cX10_isFirstOfItsRow 65 = .ok (.ireturn, 1) := by decide +kernel
theorem dX10_findAkins_0 : decode cX10_findAkins 0 = .ok (.aload_n 0, 1) := by decide +kernel
theorem dX10_findAkins_1 : decode cX10_findAkins 1 = .ok (.invokevirtual 181, 3) := by decide +kernel
theorem dX10_findAkins_4 : decode cX10_findAkins 4 = .ok (.iconst 0, 1) := by decide +kernel
theorem dX10_findAkins_5 : decode cX10_findAkins 5 = .ok (.istore_n 1, 1) := by decide +kernel
theorem dX10_findAkins_6 : decode cX10_findAkins 6 = .ok (.iload_n 1, 1) := by decide +kernel
theorem dX10_findAkins_7 : decode cX10_findAkins 7 = .ok (.sipush 576, 3) := by decide +kernel
theorem dX10_findAkins_10 : decode cX10_findAkins 10 = .ok (.if_icmp .ge 16, 3) := by decide +kernel
theorem dX10_findAkins_13 : decode cX10_findAkins 13 = .ok (.aload_n 0, 1) := by decide +kernel
theorem dX10_findAkins_14 : decode cX10_findAkins 14 = .ok (.getfield 45, 3) := by decide +kernel
theorem dX10_findAkins_17 : decode cX10_findAkins 17 = .ok (.iload_n 1, 1) := by decide +kernel
theorem dX10_findAkins_18 : decode cX10_findAkins 18 = .ok (.iconst 0, 1) := by decide +kernel
theorem dX10_findAkins_19 : decode cX10_findAkins 19 = .ok (.iastore, 1) := by decide +kernel
theorem dX10_findAkins_20 : decode cX10_findAkins 20 = .ok (.iinc 1 1, 3) := by decide +kernel
theorem dX10_findAkins_23 : decode cX10_findAkins 23 = .ok (.goto (-17), 3) := by decide +kernel
theorem dX10_findAkins_26 : decode cX10_findAkins 26 = .ok (.iconst 0, 1) := by decide +kernel
theorem dX10_findAkins_27 : decode cX10_findAkins 27 = .ok (.istore_n 1, 1) := by decide +kernel
theorem dX10_findAkins_28 : decode cX10_findAkins 28 = .ok (.iload_n 1, 1) := by decide +kernel
theorem dX10_findAkins_29 : decode cX10_findAkins 29 = .ok (.aload_n 0, 1) := by decide +kernel
theorem dX10_findAkins_30 : decode cX10_findAkins 30 = .ok (.getfield 167, 3) := by decide +kernel
theorem dX10_findAkins_33 : decode cX10_findAkins 33 = .ok (.if_icmp .ge 144, 3) := by decide +kernel
theorem dX10_findAkins_36 : decode cX10_findAkins 36 = .ok (.iconst 0, 1) := by decide +kernel
theorem dX10_findAkins_37 : decode cX10_findAkins 37 = .ok (.istore_n 2, 1) := by decide +kernel
theorem dX10_findAkins_38 : decode cX10_findAkins 38 = .ok (.iload_n 2, 1) := by decide +kernel
theorem dX10_findAkins_39 : decode cX10_findAkins 39 = .ok (.iload_n 1, 1) := by decide +kernel
theorem dX10_findAkins_40 : decode cX10_findAkins 40 = .ok (.if_icmp .ge 131, 3) := by decide +kernel
theorem dX10_findAkins_43 : decode cX10_findAkins 43 = .ok (.aload_n 0, 1) := by decide +kernel
theorem dX10_findAkins_44 : decode cX10_findAkins 44 = .ok (.getfield 32, 3) := by decide +kernel
theorem dX10_findAkins_47 : decode cX10_findAkins 47 = .ok (.iload_n 1, 1) := by decide +kernel
theorem dX10_findAkins_48 : decode cX10_findAkins 48 = .ok (.iaload, 1) := by decide +kernel
theorem dX10_findAkins_49 : decode cX10_findAkins 49 = .ok (.istore_n 3, 1) := by decide +kernel
theorem dX10_findAkins_50 : decode cX10_findAkins 50 = .ok (.aload_n 0, 1) := by decide +kernel
theorem dX10_findAkins_51 : decode cX10_findAkins 51 = .ok (.getfield 35, 3) := by decide +kernel
theorem dX10_findAkins_54 : decode cX10_findAkins 54 = .ok (.iload_n 1, 1) := by decide +kernel
theorem dX10_findAkins_55 : decode cX10_findAkins 55 = .ok (.baload, 1) := by decide +kernel
theorem dX10_findAkins_56 : decode cX10_findAkins 56 = .ok (.ifCond .eq 109, 3) := by decide +kernel
theorem dX10_findAkins_59 : decode cX10_findAkins 59 = .ok (.aload_n 0, 1) := by decide +kernel
theorem dX10_findAkins_60 : decode cX10_findAkins 60 = .ok (.getfield 35, 3) := by decide +kernel
theorem dX10_findAkins_63 : decode cX10_findAkins 63 = .ok (.iload_n 2, 1) := by decide +kernel
theorem dX10_findAkins_64 : decode cX10_findAkins 64 = .ok (.baload, 1) := by decide +kernel
theorem dX10_findAkins_65 : decode cX10_findAkins 65 = .ok (.ifCond .eq 100, 3) := by decide +kernel
theorem dX10_findAkins_68 : decode cX10_findAkins 68 = .ok (.aload_n 0, 1) := by decide +kernel
theorem dX10_findAkins_69 : decode cX10_findAkins 69 = .ok (.getfield 32, 3) := by decide +kernel
theorem dX10_findAkins_72 : decode cX10_findAkins 72 = .ok (.iload_n 2, 1) := by decide +kernel
theorem dX10_findAkins_73 : decode cX10_findAkins 73 = .ok (.iaload, 1) := by decide +kernel
theorem dX10_findAkins_74 : decode cX10_findAkins 74 = .ok (.iload_n 3, 1) := by decide +kernel
theorem dX10_findAkins_75 : decode cX10_findAkins 75 = .ok (.if_icmp .ne 90, 3) := by decide +kernel
theorem dX10_findAkins_78 : decode cX10_findAkins 78 = .ok (.iload_n 3, 1) := by decide +kernel
theorem dX10_findAkins_79 : decode cX10_findAkins 79 = .ok (.iconst 1, 1) := by decide +kernel
theorem dX10_findAkins_80 : decode cX10_findAkins 80 = .ok (.if_icmp .le 85, 3) := by decide +kernel
theorem dX10_findAkins_83 : decode cX10_findAkins 83 = .ok (.aload_n 0, 1) := by decide +kernel
theorem dX10_findAkins_84 : decode cX10_findAkins 84 = .ok (.iload_n 1, 1) := by decide +kernel
theorem dX10_findAkins_85 : decode cX10_findAkins 85 = .ok (.iload_n 2, 1) := by decide +kernel
theorem dX10_findAkins_86 : decode cX10_findAkins 86 = .ok (.invokevirtual 207, 3) := by decide +kernel
theorem dX10_findAkins_89 : decode cX10_findAkins 89 = .ok (.iload_n 3, 1) := by decide +kernel
theorem dX10_findAkins_90 : decode cX10_findAkins 90 = .ok (.iconst 1, 1) := by decide +kernel
theorem dX10_findAkins_91 : decode cX10_findAkins 91 = .ok (.isub, 1) := by decide +kernel
theorem dX10_findAkins_92 : decode cX10_findAkins 92 = .ok (.if_icmp .ne 73, 3) := by decide +kernel
theorem dX10_findAkins_95 : decode cX10_findAkins 95 = .ok (.aload_n 0, 1) := by decide +kernel
theorem dX10_findAkins_96 : decode cX10_findAkins 96 = .ok (.iload_n 1, 1) := by decide +kernel
theorem dX10_findAkins_97 : decode cX10_findAkins 97 = .ok (.invokevirtual 210, 3) := by decide +kernel
theorem dX10_findAkins_100 : decode cX10_findAkins 100 = .ok (.ifCond .eq 65, 3) := by decide +kernel
theorem dX10_findAkins_103 : decode cX10_findAkins 103 = .ok (.aload_n 0, 1) := by decide +kernel
theorem dX10_findAkins_104 : decode cX10_findAkins 104 = .ok (.iload_n 2, 1) := by decide +kernel
theorem dX10_findAkins_105 : decode cX10_findAkins 105 = .ok (.invokevirtual 210, 3) := by decide +kernel
theorem dX10_findAkins_108 : decode cX10_findAkins 108 = .ok (.ifCond .eq 57, 3) := by decide +kernel
theorem dX10_findAkins_111 : decode cX10_findAkins 111 = .ok (.aload_n 0, 1) := by decide +kernel
theorem dX10_findAkins_112 : decode cX10_findAkins 112 = .ok (.iload_n 1, 1) := by decide +kernel
theorem dX10_findAkins_113 : decode cX10_findAkins 113 = .ok (.iload_n 3, 1) := by decide +kernel
theorem dX10_findAkins_114 : decode cX10_findAkins 114 = .ok (.iconst 1, 1) := by decide +kernel
theorem dX10_findAkins_115 : decode cX10_findAkins 115 = .ok (.isub, 1) := by decide +kernel
theorem dX10_findAkins_116 : decode cX10_findAkins 116 = .ok (.invokevirtual 200, 3) := by decide +kernel
theorem dX10_findAkins_119 : decode cX10_findAkins 119 = .ok (.istore 4, 2) := by decide +kernel
theorem dX10_findAkins_121 : decode cX10_findAkins 121 = .ok (.aload_n 0, 1) := by decide +kernel
theorem dX10_findAkins_122 : decode cX10_findAkins 122 = .ok (.iload_n 2, 1) := by decide +kernel
theorem dX10_findAkins_123 : decode cX10_findAkins 123 = .ok (.iload_n 3, 1) := by decide +kernel
theorem dX10_findAkins_124 : decode cX10_findAkins 124 = .ok (.iconst 1, 1) := by decide +kernel
theorem dX10_findAkins_125 : decode cX10_findAkins 125 = .ok (.isub, 1) := by decide +kernel
theorem dX10_findAkins_126 : decode cX10_findAkins 126 = .ok (.invokevirtual 200, 3) := by decide +kernel
theorem dX10_findAkins_129 : decode cX10_findAkins 129 = .ok (.istore 5, 2) := by decide +kernel
theorem dX10_findAkins_131 : decode cX10_findAkins 131 = .ok (.aload_n 0, 1) := by decide +kernel
theorem dX10_findAkins_132 : decode cX10_findAkins 132 = .ok (.getfield 45, 3) := by decide +kernel
theorem dX10_findAkins_135 : decode cX10_findAkins 135 = .ok (.bipush 24, 2) := by decide +kernel
theorem dX10_findAkins_137 : decode cX10_findAkins 137 = .ok (.iload 4, 2) := by decide +kernel
theorem dX10_findAkins_139 : decode cX10_findAkins 139 = .ok (.imul, 1) := by decide +kernel
theorem dX10_findAkins_140 : decode cX10_findAkins 140 = .ok (.iload 5, 2) := by decide +kernel
theorem dX10_findAkins_142 : decode cX10_findAkins 142 = .ok (.iadd, 1) := by decide +kernel
theorem dX10_findAkins_143 : decode cX10_findAkins 143 = .ok (.dup2, 1) := by decide +kernel
theorem dX10_findAkins_144 : decode cX10_findAkins 144 = .ok (.iaload, 1) := by decide +kernel
theorem dX10_findAkins_145 : decode cX10_findAkins 145 = .ok (.iconst 1, 1) := by decide +kernel
theorem dX10_findAkins_146 : decode cX10_findAkins 146 = .ok (.iadd, 1) := by decide +kernel
theorem dX10_findAkins_147 : decode cX10_findAkins 147 = .ok (.iastore, 1) := by decide +kernel
theorem dX10_findAkins_148 : decode cX10_findAkins 148 = .ok (.aload_n 0, 1) := by decide +kernel
theorem dX10_findAkins_149 : decode cX10_findAkins 149 = .ok (.getfield 45, 3) := by decide +kernel
theorem dX10_findAkins_152 : decode cX10_findAkins 152 = .ok (.bipush 24, 2) := by decide +kernel
theorem dX10_findAkins_154 : decode cX10_findAkins 154 = .ok (.iload 5, 2) := by decide +kernel
theorem dX10_findAkins_156 : decode cX10_findAkins 156 = .ok (.imul, 1) := by decide +kernel
theorem dX10_findAkins_157 : decode cX10_findAkins 157 = .ok (.iload 4, 2) := by decide +kernel
theorem dX10_findAkins_159 : decode cX10_findAkins 159 = .ok (.iadd, 1) := by decide +kernel
theorem dX10_findAkins_160 : decode cX10_findAkins 160 = .ok (.dup2, 1) := by decide +kernel
theorem dX10_findAkins_161 : decode cX10_findAkins 161 = .ok (.iaload, 1) := by decide +kernel
theorem dX10_findAkins_162 : decode cX10_findAkins 162 = .ok (.iconst 1, 1) := by decide +kernel
theorem dX10_findAkins_163 : decode cX10_findAkins 163 = .ok (.iadd, 1) := by decide +kernel
theorem dX10_findAkins_164 : decode cX10_findAkins 164 = .ok (.iastore, 1) := by decide +kernel
theorem dX10_findAkins_165 : decode cX10_findAkins 165 = .ok (.iinc 2 1, 3) := by decide +kernel
theorem dX10_findAkins_168 : decode cX10_findAkins 168 = .ok (.goto (-130), 3) := by decide +kernel
theorem dX10_findAkins_171 : decode cX10_findAkins 171 = .ok (.iinc 1 1, 3) := by decide +kernel
theorem dX10_findAkins_174 : decode cX10_findAkins 174 = .ok (.goto (-146), 3) := by decide +kernel
theorem dX10_findAkins_177 : decode cX10_findAkins 177 = .ok (.return_, 1) := by decide +kernel
theorem dX10_akin_0 : decode cX10_akin 0 = .ok (.aload_n 0, 1) := by decide +kernel
theorem dX10_akin_1 : decode cX10_akin 1 = .ok (.iload_n 1, 1) := by decide +kernel
theorem dX10_akin_2 : decode cX10_akin 2 = .ok (.invokevirtual 184, 3) := by decide +kernel
theorem dX10_akin_5 : decode cX10_akin 5 = .ok (.ifCond .eq 16, 3) := by decide +kernel
theorem dX10_akin_8 : decode cX10_akin 8 = .ok (.aload_n 0, 1) := by decide +kernel
theorem dX10_akin_9 : decode cX10_akin 9 = .ok (.iload_n 2, 1) := by decide +kernel
theorem dX10_akin_10 : decode cX10_akin 10 = .ok (.invokevirtual 184, 3) := by decide +kernel
theorem dX10_akin_13 : decode cX10_akin 13 = .ok (.ifCond .eq 8, 3) := by decide +kernel
theorem dX10_akin_16 : decode cX10_akin 16 = .ok (.iload_n 1, 1) := by decide +kernel
theorem dX10_akin_17 : decode cX10_akin 17 = .ok (.iload_n 2, 1) := by decide +kernel
theorem dX10_akin_18 : decode cX10_akin 18 = .ok (.if_icmp .ne 5, 3) := by decide +kernel
theorem dX10_akin_21 : decode cX10_akin 21 = .ok (.iconst (-1), 1) := by decide +kernel
theorem dX10_akin_22 : decode cX10_akin 22 = .ok (.ireturn, 1) := by decide +kernel
theorem dX10_akin_23 : decode cX10_akin 23 = .ok (.aload_n 0, 1) := by decide +kernel
theorem dX10_akin_24 : decode cX10_akin 24 = .ok (.invokevirtual 213, 3) := by decide +kernel
theorem dX10_akin_27 : decode cX10_akin 27 = .ok (.aload_n 0, 1) := by decide +kernel
theorem dX10_akin_28 : decode cX10_akin 28 = .ok (.getfield 45, 3) := by decide +kernel
theorem dX10_akin_31 : decode cX10_akin 31 = .ok (.bipush 24, 2) := by decide +kernel
theorem dX10_akin_33 : decode cX10_akin 33 = .ok (.iload_n 1, 1) := by decide +kernel
theorem dX10_akin_34 : decode cX10_akin 34 = .ok (.imul, 1) := by decide +kernel
theorem dX10_akin_35 : decode cX10_akin 35 = .ok (.iload_n 2, 1) := by decide +kernel
theorem dX10_akin_36 : decode cX10_akin 36 = .ok (.iadd, 1) := by decide +kernel
theorem dX10_akin_37 : decode cX10_akin 37 = .ok (.iaload, 1) := by decide +kernel
theorem dX10_akin_38 : decode cX10_akin 38 = .ok (.ireturn, 1) := by decide +kernel
theorem dX10_apart_0 : decode cX10_apart 0 = .ok (.aload_n 0, 1) := by decide +kernel
theorem dX10_apart_1 : decode cX10_apart 1 = .ok (.iload_n 1, 1) := by decide +kernel
theorem dX10_apart_2 : decode cX10_apart 2 = .ok (.invokevirtual 154, 3) := by decide +kernel
theorem dX10_apart_5 : decode cX10_apart 5 = .ok (.ifCond .eq 28, 3) := by decide +kernel
theorem dX10_apart_8 : decode cX10_apart 8 = .ok (.aload_n 0, 1) := by decide +kernel
theorem dX10_apart_9 : decode cX10_apart 9 = .ok (.iload_n 2, 1) := by decide +kernel
theorem dX10_apart_10 : decode cX10_apart 10 = .ok (.invokevirtual 154, 3) := by decide +kernel
theorem dX10_apart_13 : decode cX10_apart 13 = .ok (.ifCond .eq 20, 3) := by decide +kernel
theorem dX10_apart_16 : decode cX10_apart 16 = .ok (.iload_n 1, 1) := by decide +kernel
theorem dX10_apart_17 : decode cX10_apart 17 = .ok (.iload_n 2, 1) := by decide +kernel
theorem dX10_apart_18 : decode cX10_apart 18 = .ok (.if_icmp .eq 15, 3) := by decide +kernel
theorem dX10_apart_21 : decode cX10_apart 21 = .ok (.iload_n 3, 1) := by decide +kernel
theorem dX10_apart_22 : decode cX10_apart 22 = .ok (.i2l, 1) := by decide +kernel
theorem dX10_apart_23 : decode cX10_apart 23 = .ok (.lconst 0, 1) := by decide +kernel
theorem dX10_apart_24 : decode cX10_apart 24 = .ok (.ldc2_w 216, 3) := by decide +kernel
theorem dX10_apart_27 : decode cX10_apart 27 = .ok (.invokestatic 138, 3) := by decide +kernel
theorem dX10_apart_30 : decode cX10_apart 30 = .ok (.ifCond .ne 5, 3) := by decide +kernel
theorem dX10_apart_33 : decode cX10_apart 33 = .ok (.iconst (-1), 1) := by decide +kernel
theorem dX10_apart_34 : decode cX10_apart 34 = .ok (.ireturn, 1) := by decide +kernel
theorem dX10_apart_35 : decode cX10_apart 35 = .ok (.aload_n 0, 1) := by decide +kernel
theorem dX10_apart_36 : decode cX10_apart 36 = .ok (.getfield 42, 3) := by decide +kernel
theorem dX10_apart_39 : decode cX10_apart 39 = .ok (.bipush 24, 2) := by decide +kernel
theorem dX10_apart_41 : decode cX10_apart 41 = .ok (.iload_n 1, 1) := by decide +kernel
theorem dX10_apart_42 : decode cX10_apart 42 = .ok (.imul, 1) := by decide +kernel
theorem dX10_apart_43 : decode cX10_apart 43 = .ok (.iload_n 2, 1) := by decide +kernel
theorem dX10_apart_44 : decode cX10_apart 44 = .ok (.iadd, 1) := by decide +kernel
theorem dX10_apart_45 : decode cX10_apart 45 = .ok (.iaload, 1) := by decide +kernel
theorem dX10_apart_46 : decode cX10_apart 46 = .ok (.istore 4, 2) := by decide +kernel
theorem dX10_apart_48 : decode cX10_apart 48 = .ok (.aload_n 0, 1) := by decide +kernel
theorem dX10_apart_49 : decode cX10_apart 49 = .ok (.getfield 42, 3) := by decide +kernel
theorem dX10_apart_52 : decode cX10_apart 52 = .ok (.bipush 24, 2) := by decide +kernel
theorem dX10_apart_54 : decode cX10_apart 54 = .ok (.iload_n 1, 1) := by decide +kernel
theorem dX10_apart_55 : decode cX10_apart 55 = .ok (.imul, 1) := by decide +kernel
theorem dX10_apart_56 : decode cX10_apart 56 = .ok (.iload_n 2, 1) := by decide +kernel
theorem dX10_apart_57 : decode cX10_apart 57 = .ok (.iadd, 1) := by decide +kernel
theorem dX10_apart_58 : decode cX10_apart 58 = .ok (.iload_n 3, 1) := by decide +kernel
theorem dX10_apart_59 : decode cX10_apart 59 = .ok (.iastore, 1) := by decide +kernel
theorem dX10_apart_60 : decode cX10_apart 60 = .ok (.aload_n 0, 1) := by decide +kernel
theorem dX10_apart_61 : decode cX10_apart 61 = .ok (.getfield 42, 3) := by decide +kernel
theorem dX10_apart_64 : decode cX10_apart 64 = .ok (.bipush 24, 2) := by decide +kernel
theorem dX10_apart_66 : decode cX10_apart 66 = .ok (.iload_n 2, 1) := by decide +kernel
theorem dX10_apart_67 : decode cX10_apart 67 = .ok (.imul, 1) := by decide +kernel
theorem dX10_apart_68 : decode cX10_apart 68 = .ok (.iload_n 1, 1) := by decide +kernel
theorem dX10_apart_69 : decode cX10_apart 69 = .ok (.iadd, 1) := by decide +kernel
theorem dX10_apart_70 : decode cX10_apart 70 = .ok (.iload_n 3, 1) := by decide +kernel
theorem dX10_apart_71 : decode cX10_apart 71 = .ok (.iastore, 1) := by decide +kernel
theorem dX10_apart_72 : decode cX10_apart 72 = .ok (.iload 4, 2) := by decide +kernel
theorem dX10_apart_74 : decode cX10_apart 74 = .ok (.ireturn, 1) := by decide +kernel
theorem dX10_apartOf_0 : decode cX10_apartOf 0 = .ok (.iconst 0, 1) := by decide +kernel
theorem dX10_apartOf_1 : decode cX10_apartOf 1 = .ok (.istore_n 3, 1) := by decide +kernel
theorem dX10_apartOf_2 : decode cX10_apartOf 2 = .ok (.iconst 0, 1) := by decide +kernel
theorem dX10_apartOf_3 : decode cX10_apartOf 3 = .ok (.istore 4, 2) := by decide +kernel
theorem dX10_apartOf_5 : decode cX10_apartOf 5 = .ok (.iload 4, 2) := by decide +kernel
theorem dX10_apartOf_7 : decode cX10_apartOf 7 = .ok (.aload_n 0, 1) := by decide +kernel
theorem dX10_apartOf_8 : decode cX10_apartOf 8 = .ok (.getfield 135, 3) := by decide +kernel
theorem dX10_apartOf_11 : decode cX10_apartOf 11 = .ok (.if_icmp .ge 81, 3) := by decide +kernel
theorem dX10_apartOf_14 : decode cX10_apartOf 14 = .ok (.iconst 0, 1) := by decide +kernel
theorem dX10_apartOf_15 : decode cX10_apartOf 15 = .ok (.istore 5, 2) := by decide +kernel
theorem dX10_apartOf_17 : decode cX10_apartOf 17 = .ok (.iload 5, 2) := by decide +kernel
theorem dX10_apartOf_19 : decode cX10_apartOf 19 = .ok (.aload_n 0, 1) := by decide +kernel
theorem dX10_apartOf_20 : decode cX10_apartOf 20 = .ok (.getfield 135, 3) := by decide +kernel
theorem dX10_apartOf_23 : decode cX10_apartOf 23 = .ok (.if_icmp .ge 63, 3) := by decide +kernel
theorem dX10_apartOf_26 : decode cX10_apartOf 26 = .ok (.aload_n 0, 1) := by decide +kernel
theorem dX10_apartOf_27 : decode cX10_apartOf 27 = .ok (.getfield 17, 3) := by decide +kernel
theorem dX10_apartOf_30 : decode cX10_apartOf 30 = .ok (.iload 4, 2) := by decide +kernel
theorem dX10_apartOf_32 : decode cX10_apartOf 32 = .ok (.iaload, 1) := by decide +kernel
theorem dX10_apartOf_33 : decode cX10_apartOf 33 = .ok (.iload_n 1, 1) := by decide +kernel
theorem dX10_apartOf_34 : decode cX10_apartOf 34 = .ok (.if_icmp .ne 30, 3) := by decide +kernel
theorem dX10_apartOf_37 : decode cX10_apartOf 37 = .ok (.aload_n 0, 1) := by decide +kernel
theorem dX10_apartOf_38 : decode cX10_apartOf 38 = .ok (.getfield 17, 3) := by decide +kernel
theorem dX10_apartOf_41 : decode cX10_apartOf 41 = .ok (.iload 5, 2) := by decide +kernel
theorem dX10_apartOf_43 : decode cX10_apartOf 43 = .ok (.iaload, 1) := by decide +kernel
theorem dX10_apartOf_44 : decode cX10_apartOf 44 = .ok (.iload_n 2, 1) := by decide +kernel
theorem dX10_apartOf_45 : decode cX10_apartOf 45 = .ok (.if_icmp .ne 19, 3) := by decide +kernel
theorem dX10_apartOf_48 : decode cX10_apartOf 48 = .ok (.aload_n 0, 1) := by decide +kernel
theorem dX10_apartOf_49 : decode cX10_apartOf 49 = .ok (.getfield 42, 3) := by decide +kernel
theorem dX10_apartOf_52 : decode cX10_apartOf 52 = .ok (.bipush 24, 2) := by decide +kernel
theorem dX10_apartOf_54 : decode cX10_apartOf 54 = .ok (.iload 4, 2) := by decide +kernel
theorem dX10_apartOf_56 : decode cX10_apartOf 56 = .ok (.imul, 1) := by decide +kernel
theorem dX10_apartOf_57 : decode cX10_apartOf 57 = .ok (.iload 5, 2) := by decide +kernel
theorem dX10_apartOf_59 : decode cX10_apartOf 59 = .ok (.iadd, 1) := by decide +kernel
theorem dX10_apartOf_60 : decode cX10_apartOf 60 = .ok (.iaload, 1) := by decide +kernel
theorem dX10_apartOf_61 : decode cX10_apartOf 61 = .ok (.goto 4, 3) := by decide +kernel
theorem dX10_apartOf_64 : decode cX10_apartOf 64 = .ok (.iconst 0, 1) := by decide +kernel
theorem dX10_apartOf_65 : decode cX10_apartOf 65 = .ok (.istore 6, 2) := by decide +kernel
theorem dX10_apartOf_67 : decode cX10_apartOf 67 = .ok (.iload 6, 2) := by decide +kernel
theorem dX10_apartOf_69 : decode cX10_apartOf 69 = .ok (.iload_n 3, 1) := by decide +kernel
theorem dX10_apartOf_70 : decode cX10_apartOf 70 = .ok (.if_icmp .le 8, 3) := by decide +kernel
theorem dX10_apartOf_73 : decode cX10_apartOf 73 = .ok (.iload 6, 2) := by decide +kernel
theorem dX10_apartOf_75 : decode cX10_apartOf 75 = .ok (.goto 4, 3) := by decide +kernel
theorem dX10_apartOf_78 : decode cX10_apartOf 78 = .ok (.iload_n 3, 1) := by decide +kernel
theorem dX10_apartOf_79 : decode cX10_apartOf 79 = .ok (.istore_n 3, 1) := by decide +kernel
theorem dX10_apartOf_80 : decode cX10_apartOf 80 = .ok (.iinc 5 1, 3) := by decide +kernel
theorem dX10_apartOf_83 : decode cX10_apartOf 83 = .ok (.goto (-66), 3) := by decide +kernel
theorem dX10_apartOf_86 : decode cX10_apartOf 86 = .ok (.iinc 4 1, 3) := by decide +kernel
theorem dX10_apartOf_89 : decode cX10_apartOf 89 = .ok (.goto (-84), 3) := by decide +kernel
theorem dX10_apartOf_92 : decode cX10_apartOf 92 = .ok (.iload_n 3, 1) := by decide +kernel
theorem dX10_apartOf_93 : decode cX10_apartOf 93 = .ok (.ireturn, 1) := by decide +kernel
theorem dX10_findGridSigns_0 : decode cX10_findGridSigns 0 = .ok (.aload_n 0, 1) := by decide +kernel
theorem dX10_findGridSigns_1 : decode cX10_findGridSigns 1 = .ok (.invokevirtual 213, 3) := by decide +kernel
theorem dX10_findGridSigns_4 : decode cX10_findGridSigns 4 = .ok (.aload_n 0, 1) := by decide +kernel
theorem dX10_findGridSigns_5 : decode cX10_findGridSigns 5 = .ok (.iconst 0, 1) := by decide +kernel
theorem dX10_findGridSigns_6 : decode cX10_findGridSigns 6 = .ok (.putfield 218, 3) := by decide +kernel
theorem dX10_findGridSigns_9 : decode cX10_findGridSigns 9 = .ok (.iconst 0, 1) := by decide +kernel
theorem dX10_findGridSigns_10 : decode cX10_findGridSigns 10 = .ok (.istore_n 1, 1) := by decide +kernel
theorem dX10_findGridSigns_11 : decode cX10_findGridSigns 11 = .ok (.iload_n 1, 1) := by decide +kernel
theorem dX10_findGridSigns_12 : decode cX10_findGridSigns 12 = .ok (.aload_n 0, 1) := by decide +kernel
theorem dX10_findGridSigns_13 : decode cX10_findGridSigns 13 = .ok (.getfield 135, 3) := by decide +kernel
theorem dX10_findGridSigns_16 : decode cX10_findGridSigns 16 = .ok (.if_icmp .ge 118, 3) := by decide +kernel
theorem dX10_findGridSigns_19 : decode cX10_findGridSigns 19 = .ok (.iconst 0, 1) := by decide +kernel
theorem dX10_findGridSigns_20 : decode cX10_findGridSigns 20 = .ok (.istore_n 2, 1) := by decide +kernel
theorem dX10_findGridSigns_21 : decode cX10_findGridSigns 21 = .ok (.iconst 0, 1) := by decide +kernel
theorem dX10_findGridSigns_22 : decode cX10_findGridSigns 22 = .ok (.istore_n 3, 1) := by decide +kernel
theorem dX10_findGridSigns_23 : decode cX10_findGridSigns 23 = .ok (.iload_n 3, 1) := by decide +kernel
theorem dX10_findGridSigns_24 : decode cX10_findGridSigns 24 = .ok (.aload_n 0, 1) := by decide +kernel
theorem dX10_findGridSigns_25 : decode cX10_findGridSigns 25 = .ok (.getfield 135, 3) := by decide +kernel
theorem dX10_findGridSigns_28 : decode cX10_findGridSigns 28 = .ok (.if_icmp .ge 67, 3) := by decide +kernel
theorem dX10_findGridSigns_31 : decode cX10_findGridSigns 31 = .ok (.aload_n 0, 1) := by decide +kernel
theorem dX10_findGridSigns_32 : decode cX10_findGridSigns 32 = .ok (.getfield 17, 3) := by decide +kernel
theorem dX10_findGridSigns_35 : decode cX10_findGridSigns 35 = .ok (.iload_n 1, 1) := by decide +kernel
theorem dX10_findGridSigns_36 : decode cX10_findGridSigns 36 = .ok (.iaload, 1) := by decide +kernel
theorem dX10_findGridSigns_37 : decode cX10_findGridSigns 37 = .ok (.iload_n 1, 1) := by decide +kernel
theorem dX10_findGridSigns_38 : decode cX10_findGridSigns 38 = .ok (.if_icmp .ne 57, 3) := by decide +kernel
theorem dX10_findGridSigns_41 : decode cX10_findGridSigns 41 = .ok (.iload_n 2, 1) := by decide +kernel
theorem dX10_findGridSigns_42 : decode cX10_findGridSigns 42 = .ok (.ifCond .ne 41, 3) := by decide +kernel
theorem dX10_findGridSigns_45 : decode cX10_findGridSigns 45 = .ok (.aload_n 0, 1) := by decide +kernel
theorem dX10_findGridSigns_46 : decode cX10_findGridSigns 46 = .ok (.getfield 17, 3) := by decide +kernel
theorem dX10_findGridSigns_49 : decode cX10_findGridSigns 49 = .ok (.iload_n 3, 1) := by decide +kernel
theorem dX10_findGridSigns_50 : decode cX10_findGridSigns 50 = .ok (.iaload, 1) := by decide +kernel
theorem dX10_findGridSigns_51 : decode cX10_findGridSigns 51 = .ok (.iload_n 3, 1) := by decide +kernel
theorem dX10_findGridSigns_52 : decode cX10_findGridSigns 52 = .ok (.if_icmp .ne 35, 3) := by decide +kernel
theorem dX10_findGridSigns_55 : decode cX10_findGridSigns 55 = .ok (.iload_n 3, 1) := by decide +kernel
theorem dX10_findGridSigns_56 : decode cX10_findGridSigns 56 = .ok (.iload_n 1, 1) := by decide +kernel
theorem dX10_findGridSigns_57 : decode cX10_findGridSigns 57 = .ok (.if_icmp .eq 30, 3) := by decide +kernel
theorem dX10_findGridSigns_60 : decode cX10_findGridSigns 60 = .ok (.aload_n 0, 1) := by decide +kernel
theorem dX10_findGridSigns_61 : decode cX10_findGridSigns 61 = .ok (.getfield 45, 3) := by decide +kernel
theorem dX10_findGridSigns_64 : decode cX10_findGridSigns 64 = .ok (.bipush 24, 2) := by decide +kernel
theorem dX10_findGridSigns_66 : decode cX10_findGridSigns 66 = .ok (.iload_n 1, 1) := by decide +kernel
theorem dX10_findGridSigns_67 : decode cX10_findGridSigns 67 = .ok (.imul, 1) := by decide +kernel
theorem dX10_findGridSigns_68 : decode cX10_findGridSigns 68 = .ok (.iload_n 3, 1) := by decide +kernel
theorem dX10_findGridSigns_69 : decode cX10_findGridSigns 69 = .ok (.iadd, 1) := by decide +kernel
theorem dX10_findGridSigns_70 : decode cX10_findGridSigns 70 = .ok (.iaload, 1) := by decide +kernel
theorem dX10_findGridSigns_71 : decode cX10_findGridSigns 71 = .ok (.ifCond .gt 12, 3) := by decide +kernel
theorem dX10_findGridSigns_74 : decode cX10_findGridSigns 74 = .ok (.aload_n 0, 1) := by decide +kernel
theorem dX10_findGridSigns_75 : decode cX10_findGridSigns 75 = .ok (.iload_n 1, 1) := by decide +kernel
theorem dX10_findGridSigns_76 : decode cX10_findGridSigns 76 = .ok (.iload_n 3, 1) := by decide +kernel
theorem dX10_findGridSigns_77 : decode cX10_findGridSigns 77 = .ok (.invokevirtual 221, 3) := by decide +kernel
theorem dX10_findGridSigns_80 : decode cX10_findGridSigns 80 = .ok (.ifCond .le 7, 3) := by decide +kernel
theorem dX10_findGridSigns_83 : decode cX10_findGridSigns 83 = .ok (.iconst 1, 1) := by decide +kernel
theorem dX10_findGridSigns_84 : decode cX10_findGridSigns 84 = .ok (.goto 4, 3) := by decide +kernel
theorem dX10_findGridSigns_87 : decode cX10_findGridSigns 87 = .ok (.iconst 0, 1) := by decide +kernel
theorem dX10_findGridSigns_88 : decode cX10_findGridSigns 88 = .ok (.istore_n 2, 1) := by decide +kernel
theorem dX10_findGridSigns_89 : decode cX10_findGridSigns 89 = .ok (.iinc 3 1, 3) := by decide +kernel
theorem dX10_findGridSigns_92 : decode cX10_findGridSigns 92 = .ok (.goto (-69), 3) := by decide +kernel
theorem dX10_findGridSigns_95 : decode cX10_findGridSigns 95 = .ok (.iload_n 2, 1) := by decide +kernel
theorem dX10_findGridSigns_96 : decode cX10_findGridSigns 96 = .ok (.ifCond .eq 32, 3) := by decide +kernel
theorem dX10_findGridSigns_99 : decode cX10_findGridSigns 99 = .ok (.aload_n 0, 1) := by decide +kernel
theorem dX10_findGridSigns_100 : decode cX10_findGridSigns 100 = .ok (.getfield 218, 3) := by decide +kernel
theorem dX10_findGridSigns_103 : decode cX10_findGridSigns 103 = .ok (.bipush 8, 2) := by decide +kernel
theorem dX10_findGridSigns_105 : decode cX10_findGridSigns 105 = .ok (.if_icmp .ge 23, 3) := by decide +kernel
theorem dX10_findGridSigns_108 : decode cX10_findGridSigns 108 = .ok (.aload_n 0, 1) := by decide +kernel
theorem dX10_findGridSigns_109 : decode cX10_findGridSigns 109 = .ok (.getfield 48, 3) := by decide +kernel
theorem dX10_findGridSigns_112 : decode cX10_findGridSigns 112 = .ok (.aload_n 0, 1) := by decide +kernel
theorem dX10_findGridSigns_113 : decode cX10_findGridSigns 113 = .ok (.getfield 218, 3) := by decide +kernel
theorem dX10_findGridSigns_116 : decode cX10_findGridSigns 116 = .ok (.iload_n 1, 1) := by decide +kernel
theorem dX10_findGridSigns_117 : decode cX10_findGridSigns 117 = .ok (.iastore, 1) := by decide +kernel
theorem dX10_findGridSigns_118 : decode cX10_findGridSigns 118 = .ok (.aload_n 0, 1) := by decide +kernel
theorem dX10_findGridSigns_119 : decode cX10_findGridSigns 119 = .ok (.dup, 1) := by decide +kernel
theorem dX10_findGridSigns_120 : decode cX10_findGridSigns 120 = .ok (.getfield 218, 3) := by decide +kernel
theorem dX10_findGridSigns_123 : decode cX10_findGridSigns 123 = .ok (.iconst 1, 1) := by decide +kernel
theorem dX10_findGridSigns_124 : decode cX10_findGridSigns 124 = .ok (.iadd, 1) := by decide +kernel
theorem dX10_findGridSigns_125 : decode cX10_findGridSigns 125 = .ok (.putfield 218, 3) := by decide +kernel
theorem dX10_findGridSigns_128 : decode cX10_findGridSigns 128 = .ok (.iinc 1 1, 3) := by decide +kernel
theorem dX10_findGridSigns_131 : decode cX10_findGridSigns 131 = .ok (.goto (-120), 3) := by decide +kernel
theorem dX10_findGridSigns_134 : decode cX10_findGridSigns 134 = .ok (.iconst 0, 1) := by decide +kernel
theorem dX10_findGridSigns_135 : decode cX10_findGridSigns 135 = .ok (.istore_n 1, 1) := by decide +kernel
theorem dX10_findGridSigns_136 : decode cX10_findGridSigns 136 = .ok (.iload_n 1, 1) := by decide +kernel
theorem dX10_findGridSigns_137 : decode cX10_findGridSigns 137 = .ok (.aload_n 0, 1) := by decide +kernel
theorem dX10_findGridSigns_138 : decode cX10_findGridSigns 138 = .ok (.getfield 218, 3) := by decide +kernel
theorem dX10_findGridSigns_141 : decode cX10_findGridSigns 141 = .ok (.if_icmp .ge 61, 3) := by decide +kernel
theorem dX10_findGridSigns_144 : decode cX10_findGridSigns 144 = .ok (.iconst 0, 1) := by decide +kernel
theorem dX10_findGridSigns_145 : decode cX10_findGridSigns 145 = .ok (.istore_n 2, 1) := by decide +kernel
theorem dX10_findGridSigns_146 : decode cX10_findGridSigns 146 = .ok (.iload_n 2, 1) := by decide +kernel
theorem dX10_findGridSigns_147 : decode cX10_findGridSigns 147 = .ok (.aload_n 0, 1) := by decide +kernel
theorem dX10_findGridSigns_148 : decode cX10_findGridSigns 148 = .ok (.getfield 218, 3) := by decide +kernel
theorem dX10_findGridSigns_151 : decode cX10_findGridSigns 151 = .ok (.if_icmp .ge 45, 3) := by decide +kernel
theorem dX10_findGridSigns_154 : decode cX10_findGridSigns 154 = .ok (.aload_n 0, 1) := by decide +kernel
theorem dX10_findGridSigns_155 : decode cX10_findGridSigns 155 = .ok (.getfield 51, 3) := by decide +kernel
theorem dX10_findGridSigns_158 : decode cX10_findGridSigns 158 = .ok (.bipush 8, 2) := by decide +kernel
theorem dX10_findGridSigns_160 : decode cX10_findGridSigns 160 = .ok (.iload_n 1, 1) := by decide +kernel
theorem dX10_findGridSigns_161 : decode cX10_findGridSigns 161 = .ok (.imul, 1) := by decide +kernel
theorem dX10_findGridSigns_162 : decode cX10_findGridSigns 162 = .ok (.iload_n 2, 1) := by decide +kernel
theorem dX10_findGridSigns_163 : decode cX10_findGridSigns 163 = .ok (.iadd, 1) := by decide +kernel
theorem dX10_findGridSigns_164 : decode cX10_findGridSigns 164 = .ok (.iload_n 1, 1) := by decide +kernel
theorem dX10_findGridSigns_165 : decode cX10_findGridSigns 165 = .ok (.iload_n 2, 1) := by decide +kernel
theorem dX10_findGridSigns_166 : decode cX10_findGridSigns 166 = .ok (.if_icmp .ne 7, 3) := by decide +kernel
theorem dX10_findGridSigns_169 : decode cX10_findGridSigns 169 = .ok (.iconst 0, 1) := by decide +kernel
theorem dX10_findGridSigns_170 : decode cX10_findGridSigns 170 = .ok (.goto 19, 3) := by decide +kernel
theorem dX10_findGridSigns_173 : decode cX10_findGridSigns 173 = .ok (.aload_n 0, 1) := by decide +kernel
theorem dX10_findGridSigns_174 : decode cX10_findGridSigns 174 = .ok (.aload_n 0, 1) := by decide +kernel
theorem dX10_findGridSigns_175 : decode cX10_findGridSigns 175 = .ok (.getfield 48, 3) := by decide +kernel
theorem dX10_findGridSigns_178 : decode cX10_findGridSigns 178 = .ok (.iload_n 1, 1) := by decide +kernel
theorem dX10_findGridSigns_179 : decode cX10_findGridSigns 179 = .ok (.iaload, 1) := by decide +kernel
theorem dX10_findGridSigns_180 : decode cX10_findGridSigns 180 = .ok (.aload_n 0, 1) := by decide +kernel
theorem dX10_findGridSigns_181 : decode cX10_findGridSigns 181 = .ok (.getfield 48, 3) := by decide +kernel
theorem dX10_findGridSigns_184 : decode cX10_findGridSigns 184 = .ok (.iload_n 2, 1) := by decide +kernel
theorem dX10_findGridSigns_185 : decode cX10_findGridSigns 185 = .ok (.iaload, 1) := by decide +kernel
theorem dX10_findGridSigns_186 : decode cX10_findGridSigns 186 = .ok (.invokevirtual 221, 3) := by decide +kernel
theorem dX10_findGridSigns_189 : decode cX10_findGridSigns 189 = .ok (.iastore, 1) := by decide +kernel
theorem dX10_findGridSigns_190 : decode cX10_findGridSigns 190 = .ok (.iinc 2 1, 3) := by decide +kernel
theorem dX10_findGridSigns_193 : decode cX10_findGridSigns 193 = .ok (.goto (-47), 3) := by decide +kernel
theorem dX10_findGridSigns_196 : decode cX10_findGridSigns 196 = .ok (.iinc 1 1, 3) := by decide +kernel
theorem dX10_findGridSigns_199 : decode cX10_findGridSigns 199 = .ok (.goto (-63), 3) := by decide +kernel
theorem dX10_findGridSigns_202 : decode cX10_findGridSigns 202 = .ok (.return_, 1) := by decide +kernel
theorem dX10_quarrel_0 : decode cX10_quarrel 0 = .ok (.iconst 0, 1) := by decide +kernel
theorem dX10_quarrel_1 : decode cX10_quarrel 1 = .ok (.istore_n 1, 1) := by decide +kernel
theorem dX10_quarrel_2 : decode cX10_quarrel 2 = .ok (.iconst 0, 1) := by decide +kernel
theorem dX10_quarrel_3 : decode cX10_quarrel 3 = .ok (.istore_n 2, 1) := by decide +kernel
theorem dX10_quarrel_4 : decode cX10_quarrel 4 = .ok (.iload_n 2, 1) := by decide +kernel
theorem dX10_quarrel_5 : decode cX10_quarrel 5 = .ok (.aload_n 0, 1) := by decide +kernel
theorem dX10_quarrel_6 : decode cX10_quarrel 6 = .ok (.getfield 218, 3) := by decide +kernel
theorem dX10_quarrel_9 : decode cX10_quarrel 9 = .ok (.if_icmp .ge 75, 3) := by decide +kernel
theorem dX10_quarrel_12 : decode cX10_quarrel 12 = .ok (.iconst 0, 1) := by decide +kernel
theorem dX10_quarrel_13 : decode cX10_quarrel 13 = .ok (.istore_n 3, 1) := by decide +kernel
theorem dX10_quarrel_14 : decode cX10_quarrel 14 = .ok (.iload_n 3, 1) := by decide +kernel
theorem dX10_quarrel_15 : decode cX10_quarrel 15 = .ok (.iload_n 2, 1) := by decide +kernel
theorem dX10_quarrel_16 : decode cX10_quarrel 16 = .ok (.if_icmp .ge 62, 3) := by decide +kernel
theorem dX10_quarrel_19 : decode cX10_quarrel 19 = .ok (.iload_n 1, 1) := by decide +kernel
theorem dX10_quarrel_20 : decode cX10_quarrel 20 = .ok (.aload_n 0, 1) := by decide +kernel
theorem dX10_quarrel_21 : decode cX10_quarrel 21 = .ok (.getfield 54, 3) := by decide +kernel
theorem dX10_quarrel_24 : decode cX10_quarrel 24 = .ok (.iload_n 2, 1) := by decide +kernel
theorem dX10_quarrel_25 : decode cX10_quarrel 25 = .ok (.iaload, 1) := by decide +kernel
theorem dX10_quarrel_26 : decode cX10_quarrel 26 = .ok (.aload_n 0, 1) := by decide +kernel
theorem dX10_quarrel_27 : decode cX10_quarrel 27 = .ok (.getfield 54, 3) := by decide +kernel
theorem dX10_quarrel_30 : decode cX10_quarrel 30 = .ok (.iload_n 3, 1) := by decide +kernel
theorem dX10_quarrel_31 : decode cX10_quarrel 31 = .ok (.iaload, 1) := by decide +kernel
theorem dX10_quarrel_32 : decode cX10_quarrel 32 = .ok (.if_icmp .ne 17, 3) := by decide +kernel
theorem dX10_quarrel_35 : decode cX10_quarrel 35 = .ok (.aload_n 0, 1) := by decide +kernel
theorem dX10_quarrel_36 : decode cX10_quarrel 36 = .ok (.getfield 51, 3) := by decide +kernel
theorem dX10_quarrel_39 : decode cX10_quarrel 39 = .ok (.bipush 8, 2) := by decide +kernel
theorem dX10_quarrel_41 : decode cX10_quarrel 41 = .ok (.iload_n 2, 1) := by decide +kernel
theorem dX10_quarrel_42 : decode cX10_quarrel 42 = .ok (.imul, 1) := by decide +kernel
theorem dX10_quarrel_43 : decode cX10_quarrel 43 = .ok (.iload_n 3, 1) := by decide +kernel
theorem dX10_quarrel_44 : decode cX10_quarrel 44 = .ok (.iadd, 1) := by decide +kernel
theorem dX10_quarrel_45 : decode cX10_quarrel 45 = .ok (.iaload, 1) := by decide +kernel
theorem dX10_quarrel_46 : decode cX10_quarrel 46 = .ok (.goto 24, 3) := by decide +kernel
theorem dX10_quarrel_49 : decode cX10_quarrel 49 = .ok (.aload_n 0, 1) := by decide +kernel
theorem dX10_quarrel_50 : decode cX10_quarrel 50 = .ok (.getfield 45, 3) := by decide +kernel
theorem dX10_quarrel_53 : decode cX10_quarrel 53 = .ok (.bipush 24, 2) := by decide +kernel
theorem dX10_quarrel_55 : decode cX10_quarrel 55 = .ok (.aload_n 0, 1) := by decide +kernel
theorem dX10_quarrel_56 : decode cX10_quarrel 56 = .ok (.getfield 48, 3) := by decide +kernel
theorem dX10_quarrel_59 : decode cX10_quarrel 59 = .ok (.iload_n 2, 1) := by decide +kernel
theorem dX10_quarrel_60 : decode cX10_quarrel 60 = .ok (.iaload, 1) := by decide +kernel
theorem dX10_quarrel_61 : decode cX10_quarrel 61 = .ok (.imul, 1) := by decide +kernel
theorem dX10_quarrel_62 : decode cX10_quarrel 62 = .ok (.aload_n 0, 1) := by decide +kernel
theorem dX10_quarrel_63 : decode cX10_quarrel 63 = .ok (.getfield 48, 3) := by decide +kernel
theorem dX10_quarrel_66 : decode cX10_quarrel 66 = .ok (.iload_n 3, 1) := by decide +kernel
theorem dX10_quarrel_67 : decode cX10_quarrel 67 = .ok (.iaload, 1) := by decide +kernel
theorem dX10_quarrel_68 : decode cX10_quarrel 68 = .ok (.iadd, 1) := by decide +kernel
theorem dX10_quarrel_69 : decode cX10_quarrel 69 = .ok (.iaload, 1) := by decide +kernel
theorem dX10_quarrel_70 : decode cX10_quarrel 70 = .ok (.iadd, 1) := by decide +kernel
theorem dX10_quarrel_71 : decode cX10_quarrel 71 = .ok (.istore_n 1, 1) := by decide +kernel
theorem dX10_quarrel_72 : decode cX10_quarrel 72 = .ok (.iinc 3 1, 3) := by decide +kernel
theorem dX10_quarrel_75 : decode cX10_quarrel 75 = .ok (.goto (-61), 3) := by decide +kernel
theorem dX10_quarrel_78 : decode cX10_quarrel 78 = .ok (.iinc 2 1, 3) := by decide +kernel
theorem dX10_quarrel_81 : decode cX10_quarrel 81 = .ok (.goto (-77), 3) := by decide +kernel
theorem dX10_quarrel_84 : decode cX10_quarrel 84 = .ok (.iload_n 1, 1) := by decide +kernel
theorem dX10_quarrel_85 : decode cX10_quarrel 85 = .ok (.ireturn, 1) := by decide +kernel
theorem dX10_findGrid_0 : decode cX10_findGrid 0 = .ok (.aload_n 0, 1) := by decide +kernel
theorem dX10_findGrid_1 : decode cX10_findGrid 1 = .ok (.invokevirtual 224, 3) := by decide +kernel
theorem dX10_findGrid_4 : decode cX10_findGrid 4 = .ok (.iconst 0, 1) := by decide +kernel
theorem dX10_findGrid_5 : decode cX10_findGrid 5 = .ok (.istore_n 2, 1) := by decide +kernel
theorem dX10_findGrid_6 : decode cX10_findGrid 6 = .ok (.iload_n 2, 1) := by decide +kernel
theorem dX10_findGrid_7 : decode cX10_findGrid 7 = .ok (.bipush 8, 2) := by decide +kernel
theorem dX10_findGrid_9 : decode cX10_findGrid 9 = .ok (.if_icmp .ge 16, 3) := by decide +kernel
theorem dX10_findGrid_12 : decode cX10_findGrid 12 = .ok (.aload_n 0, 1) := by decide +kernel
theorem dX10_findGrid_13 : decode cX10_findGrid 13 = .ok (.getfield 54, 3) := by decide +kernel
theorem dX10_findGrid_16 : decode cX10_findGrid 16 = .ok (.iload_n 2, 1) := by decide +kernel
theorem dX10_findGrid_17 : decode cX10_findGrid 17 = .ok (.iconst 0, 1) := by decide +kernel
theorem dX10_findGrid_18 : decode cX10_findGrid 18 = .ok (.iastore, 1) := by decide +kernel
theorem dX10_findGrid_19 : decode cX10_findGrid 19 = .ok (.iinc 2 1, 3) := by decide +kernel
theorem dX10_findGrid_22 : decode cX10_findGrid 22 = .ok (.goto (-16), 3) := by decide +kernel
theorem dX10_findGrid_25 : decode cX10_findGrid 25 = .ok (.iconst (-1), 1) := by decide +kernel
theorem dX10_findGrid_26 : decode cX10_findGrid 26 = .ok (.istore_n 2, 1) := by decide +kernel
theorem dX10_findGrid_27 : decode cX10_findGrid 27 = .ok (.iconst 1, 1) := by decide +kernel
theorem dX10_findGrid_28 : decode cX10_findGrid 28 = .ok (.istore_n 3, 1) := by decide +kernel
theorem dX10_findGrid_29 : decode cX10_findGrid 29 = .ok (.iload_n 3, 1) := by decide +kernel
theorem dX10_findGrid_30 : decode cX10_findGrid 30 = .ok (.ifCond .eq 121, 3) := by decide +kernel
theorem dX10_findGrid_33 : decode cX10_findGrid 33 = .ok (.aload_n 0, 1) := by decide +kernel
theorem dX10_findGrid_34 : decode cX10_findGrid 34 = .ok (.invokevirtual 227, 3) := by decide +kernel
theorem dX10_findGrid_37 : decode cX10_findGrid 37 = .ok (.istore 4, 2) := by decide +kernel
theorem dX10_findGrid_39 : decode cX10_findGrid 39 = .ok (.iload_n 2, 1) := by decide +kernel
theorem dX10_findGrid_40 : decode cX10_findGrid 40 = .ok (.ifCond .lt 9, 3) := by decide +kernel
theorem dX10_findGrid_43 : decode cX10_findGrid 43 = .ok (.iload 4, 2) := by decide +kernel
theorem dX10_findGrid_45 : decode cX10_findGrid 45 = .ok (.iload_n 2, 1) := by decide +kernel
theorem dX10_findGrid_46 : decode cX10_findGrid 46 = .ok (.if_icmp .ge 36, 3) := by decide +kernel
theorem dX10_findGrid_49 : decode cX10_findGrid 49 = .ok (.iload 4, 2) := by decide +kernel
theorem dX10_findGrid_51 : decode cX10_findGrid 51 = .ok (.istore_n 2, 1) := by decide +kernel
theorem dX10_findGrid_52 : decode cX10_findGrid 52 = .ok (.iconst 0, 1) := by decide +kernel
theorem dX10_findGrid_53 : decode cX10_findGrid 53 = .ok (.istore 5, 2) := by decide +kernel
theorem dX10_findGrid_55 : decode cX10_findGrid 55 = .ok (.iload 5, 2) := by decide +kernel
theorem dX10_findGrid_57 : decode cX10_findGrid 57 = .ok (.bipush 8, 2) := by decide +kernel
theorem dX10_findGrid_59 : decode cX10_findGrid 59 = .ok (.if_icmp .ge 23, 3) := by decide +kernel
theorem dX10_findGrid_62 : decode cX10_findGrid 62 = .ok (.aload_n 0, 1) := by decide +kernel
theorem dX10_findGrid_63 : decode cX10_findGrid 63 = .ok (.getfield 57, 3) := by decide +kernel
theorem dX10_findGrid_66 : decode cX10_findGrid 66 = .ok (.iload 5, 2) := by decide +kernel
theorem dX10_findGrid_68 : decode cX10_findGrid 68 = .ok (.aload_n 0, 1) := by decide +kernel
theorem dX10_findGrid_69 : decode cX10_findGrid 69 = .ok (.getfield 54, 3) := by decide +kernel
theorem dX10_findGrid_72 : decode cX10_findGrid 72 = .ok (.iload 5, 2) := by decide +kernel
theorem dX10_findGrid_74 : decode cX10_findGrid 74 = .ok (.iaload, 1) := by decide +kernel
theorem dX10_findGrid_75 : decode cX10_findGrid 75 = .ok (.iastore, 1) := by decide +kernel
theorem dX10_findGrid_76 : decode cX10_findGrid 76 = .ok (.iinc 5 1, 3) := by decide +kernel
theorem dX10_findGrid_79 : decode cX10_findGrid 79 = .ok (.goto (-24), 3) := by decide +kernel
theorem dX10_findGrid_82 : decode cX10_findGrid 82 = .ok (.aload_n 0, 1) := by decide +kernel
theorem dX10_findGrid_83 : decode cX10_findGrid 83 = .ok (.getfield 218, 3) := by decide +kernel
theorem dX10_findGrid_86 : decode cX10_findGrid 86 = .ok (.iconst 1, 1) := by decide +kernel
theorem dX10_findGrid_87 : decode cX10_findGrid 87 = .ok (.isub, 1) := by decide +kernel
theorem dX10_findGrid_88 : decode cX10_findGrid 88 = .ok (.istore 5, 2) := by decide +kernel
theorem dX10_findGrid_90 : decode cX10_findGrid 90 = .ok (.iload 5, 2) := by decide +kernel
theorem dX10_findGrid_92 : decode cX10_findGrid 92 = .ok (.ifCond .lt 30, 3) := by decide +kernel
theorem dX10_findGrid_95 : decode cX10_findGrid 95 = .ok (.aload_n 0, 1) := by decide +kernel
theorem dX10_findGrid_96 : decode cX10_findGrid 96 = .ok (.getfield 54, 3) := by decide +kernel
theorem dX10_findGrid_99 : decode cX10_findGrid 99 = .ok (.iload 5, 2) := by decide +kernel
theorem dX10_findGrid_101 : decode cX10_findGrid 101 = .ok (.iaload, 1) := by decide +kernel
theorem dX10_findGrid_102 : decode cX10_findGrid 102 = .ok (.iload_n 1, 1) := by decide +kernel
theorem dX10_findGrid_103 : decode cX10_findGrid 103 = .ok (.iconst 1, 1) := by decide +kernel
theorem dX10_findGrid_104 : decode cX10_findGrid 104 = .ok (.isub, 1) := by decide +kernel
theorem dX10_findGrid_105 : decode cX10_findGrid 105 = .ok (.if_icmp .ne 17, 3) := by decide +kernel
theorem dX10_findGrid_108 : decode cX10_findGrid 108 = .ok (.aload_n 0, 1) := by decide +kernel
theorem dX10_findGrid_109 : decode cX10_findGrid 109 = .ok (.getfield 54, 3) := by decide +kernel
theorem dX10_findGrid_112 : decode cX10_findGrid 112 = .ok (.iload 5, 2) := by decide +kernel
theorem dX10_findGrid_114 : decode cX10_findGrid 114 = .ok (.iconst 0, 1) := by decide +kernel
theorem dX10_findGrid_115 : decode cX10_findGrid 115 = .ok (.iastore, 1) := by decide +kernel
theorem dX10_findGrid_116 : decode cX10_findGrid 116 = .ok (.iinc 5 (-1), 3) := by decide +kernel
theorem dX10_findGrid_119 : decode cX10_findGrid 119 = .ok (.goto (-29), 3) := by decide +kernel
theorem dX10_findGrid_122 : decode cX10_findGrid 122 = .ok (.iload 5, 2) := by decide +kernel
theorem dX10_findGrid_124 : decode cX10_findGrid 124 = .ok (.ifCond .lt 7, 3) := by decide +kernel
theorem dX10_findGrid_127 : decode cX10_findGrid 127 = .ok (.iconst 1, 1) := by decide +kernel
theorem dX10_findGrid_128 : decode cX10_findGrid 128 = .ok (.goto 4, 3) := by decide +kernel
theorem dX10_findGrid_131 : decode cX10_findGrid 131 = .ok (.iconst 0, 1) := by decide +kernel
theorem dX10_findGrid_132 : decode cX10_findGrid 132 = .ok (.istore_n 3, 1) := by decide +kernel
theorem dX10_findGrid_133 : decode cX10_findGrid 133 = .ok (.iload_n 3, 1) := by decide +kernel
theorem dX10_findGrid_134 : decode cX10_findGrid 134 = .ok (.ifCond .eq 14, 3) := by decide +kernel
theorem dX10_findGrid_137 : decode cX10_findGrid 137 = .ok (.aload_n 0, 1) := by decide +kernel
theorem dX10_findGrid_138 : decode cX10_findGrid 138 = .ok (.getfield 54, 3) := by decide +kernel
theorem dX10_findGrid_141 : decode cX10_findGrid 141 = .ok (.iload 5, 2) := by decide +kernel
theorem dX10_findGrid_143 : decode cX10_findGrid 143 = .ok (.dup2, 1) := by decide +kernel
theorem dX10_findGrid_144 : decode cX10_findGrid 144 = .ok (.iaload, 1) := by decide +kernel
theorem dX10_findGrid_145 : decode cX10_findGrid 145 = .ok (.iconst 1, 1) := by decide +kernel
theorem dX10_findGrid_146 : decode cX10_findGrid 146 = .ok (.iadd, 1) := by decide +kernel
theorem dX10_findGrid_147 : decode cX10_findGrid 147 = .ok (.iastore, 1) := by decide +kernel
theorem dX10_findGrid_148 : decode cX10_findGrid 148 = .ok (.goto (-119), 3) := by decide +kernel
theorem dX10_findGrid_151 : decode cX10_findGrid 151 = .ok (.iload_n 2, 1) := by decide +kernel
theorem dX10_findGrid_152 : decode cX10_findGrid 152 = .ok (.ireturn, 1) := by decide +kernel
theorem dX10_grid_0 : decode cX10_grid 0 = .ok (.iload_n 1, 1) := by decide +kernel
theorem dX10_grid_1 : decode cX10_grid 1 = .ok (.i2l, 1) := by decide +kernel
theorem dX10_grid_2 : decode cX10_grid 2 = .ok (.lconst 1, 1) := by decide +kernel
theorem dX10_grid_3 : decode cX10_grid 3 = .ok (.ldc2_w 158, 3) := by decide +kernel
theorem dX10_grid_6 : decode cX10_grid 6 = .ok (.invokestatic 138, 3) := by decide +kernel
theorem dX10_grid_9 : decode cX10_grid 9 = .ok (.ifCond .ne 5, 3) := by decide +kernel
theorem dX10_grid_12 : decode cX10_grid 12 = .ok (.iconst (-1), 1) := by decide +kernel
theorem dX10_grid_13 : decode cX10_grid 13 = .ok (.ireturn, 1) := by decide +kernel
theorem dX10_grid_14 : decode cX10_grid 14 = .ok (.aload_n 0, 1) := by decide +kernel
theorem dX10_grid_15 : decode cX10_grid 15 = .ok (.iload_n 1, 1) := by decide +kernel
theorem dX10_grid_16 : decode cX10_grid 16 = .ok (.invokevirtual 230, 3) := by decide +kernel
theorem dX10_grid_19 : decode cX10_grid 19 = .ok (.istore_n 3, 1) := by decide +kernel
theorem dX10_grid_20 : decode cX10_grid 20 = .ok (.iload_n 2, 1) := by decide +kernel
theorem dX10_grid_21 : decode cX10_grid 21 = .ok (.ifCond .ne 7, 3) := by decide +kernel
theorem dX10_grid_24 : decode cX10_grid 24 = .ok (.iload_n 3, 1) := by decide +kernel
theorem dX10_grid_25 : decode cX10_grid 25 = .ok (.goto 78, 3) := by decide +kernel
theorem dX10_grid_28 : decode cX10_grid 28 = .ok (.iload_n 2, 1) := by decide +kernel
theorem dX10_grid_29 : decode cX10_grid 29 = .ok (.iconst 1, 1) := by decide +kernel
theorem dX10_grid_30 : decode cX10_grid 30 = .ok (.if_icmp .ne 10, 3) := by decide +kernel
theorem dX10_grid_33 : decode cX10_grid 33 = .ok (.aload_n 0, 1) := by decide +kernel
theorem dX10_grid_34 : decode cX10_grid 34 = .ok (.getfield 218, 3) := by decide +kernel
theorem dX10_grid_37 : decode cX10_grid 37 = .ok (.goto 66, 3) := by decide +kernel
theorem dX10_grid_40 : decode cX10_grid 40 = .ok (.iload_n 2, 1) := by decide +kernel
theorem dX10_grid_41 : decode cX10_grid 41 = .ok (.i2l, 1) := by decide +kernel
theorem dX10_grid_42 : decode cX10_grid 42 = .ok (.ldc2_w 179, 3) := by decide +kernel
theorem dX10_grid_45 : decode cX10_grid 45 = .ok (.bipush 9, 2) := by decide +kernel
theorem dX10_grid_47 : decode cX10_grid 47 = .ok (.aload_n 0, 1) := by decide +kernel
theorem dX10_grid_48 : decode cX10_grid 48 = .ok (.getfield 218, 3) := by decide +kernel
theorem dX10_grid_51 : decode cX10_grid 51 = .ok (.iadd, 1) := by decide +kernel
theorem dX10_grid_52 : decode cX10_grid 52 = .ok (.i2l, 1) := by decide +kernel
theorem dX10_grid_53 : decode cX10_grid 53 = .ok (.invokestatic 138, 3) := by decide +kernel
theorem dX10_grid_56 : decode cX10_grid 56 = .ok (.ifCond .eq 15, 3) := by decide +kernel
theorem dX10_grid_59 : decode cX10_grid 59 = .ok (.aload_n 0, 1) := by decide +kernel
theorem dX10_grid_60 : decode cX10_grid 60 = .ok (.getfield 48, 3) := by decide +kernel
theorem dX10_grid_63 : decode cX10_grid 63 = .ok (.iload_n 2, 1) := by decide +kernel
theorem dX10_grid_64 : decode cX10_grid 64 = .ok (.bipush 10, 2) := by decide +kernel
theorem dX10_grid_66 : decode cX10_grid 66 = .ok (.isub, 1) := by decide +kernel
theorem dX10_grid_67 : decode cX10_grid 67 = .ok (.iaload, 1) := by decide +kernel
theorem dX10_grid_68 : decode cX10_grid 68 = .ok (.goto 35, 3) := by decide +kernel
theorem dX10_grid_71 : decode cX10_grid 71 = .ok (.iload_n 2, 1) := by decide +kernel
theorem dX10_grid_72 : decode cX10_grid 72 = .ok (.i2l, 1) := by decide +kernel
theorem dX10_grid_73 : decode cX10_grid 73 = .ok (.ldc2_w 233, 3) := by decide +kernel
theorem dX10_grid_76 : decode cX10_grid 76 = .ok (.bipush 29, 2) := by decide +kernel
theorem dX10_grid_78 : decode cX10_grid 78 = .ok (.aload_n 0, 1) := by decide +kernel
theorem dX10_grid_79 : decode cX10_grid 79 = .ok (.getfield 218, 3) := by decide +kernel
theorem dX10_grid_82 : decode cX10_grid 82 = .ok (.iadd, 1) := by decide +kernel
theorem dX10_grid_83 : decode cX10_grid 83 = .ok (.i2l, 1) := by decide +kernel
theorem dX10_grid_84 : decode cX10_grid 84 = .ok (.invokestatic 138, 3) := by decide +kernel
theorem dX10_grid_87 : decode cX10_grid 87 = .ok (.ifCond .eq 15, 3) := by decide +kernel
theorem dX10_grid_90 : decode cX10_grid 90 = .ok (.aload_n 0, 1) := by decide +kernel
theorem dX10_grid_91 : decode cX10_grid 91 = .ok (.getfield 57, 3) := by decide +kernel
theorem dX10_grid_94 : decode cX10_grid 94 = .ok (.iload_n 2, 1) := by decide +kernel
theorem dX10_grid_95 : decode cX10_grid 95 = .ok (.bipush 30, 2) := by decide +kernel
theorem dX10_grid_97 : decode cX10_grid 97 = .ok (.isub, 1) := by decide +kernel
theorem dX10_grid_98 : decode cX10_grid 98 = .ok (.iaload, 1) := by decide +kernel
theorem dX10_grid_99 : decode cX10_grid 99 = .ok (.goto 4, 3) := by decide +kernel
theorem dX10_grid_102 : decode cX10_grid 102 = .ok (.iconst (-1), 1) := by decide +kernel
theorem dX10_grid_103 : decode cX10_grid 103 = .ok (.ireturn, 1) := by decide +kernel
theorem dX10_isMarks_0 : decode cX10_isMarks 0 = .ok (.iload_n 0, 1) := by decide +kernel
theorem dX10_isMarks_1 : decode cX10_isMarks 1 = .ok (.i2l, 1) := by decide +kernel
theorem dX10_isMarks_2 : decode cX10_isMarks 2 = .ok (.lconst 0, 1) := by decide +kernel
theorem dX10_isMarks_3 : decode cX10_isMarks 3 = .ok (.ldc2_w 235, 3) := by decide +kernel
theorem dX10_isMarks_6 : decode cX10_isMarks 6 = .ok (.invokestatic 138, 3) := by decide +kernel
theorem dX10_isMarks_9 : decode cX10_isMarks 9 = .ok (.istore_n 1, 1) := by decide +kernel
theorem dX10_isMarks_10 : decode cX10_isMarks 10 = .ok (.iconst 0, 1) := by decide +kernel
theorem dX10_isMarks_11 : decode cX10_isMarks 11 = .ok (.istore_n 2, 1) := by decide +kernel
theorem dX10_isMarks_12 : decode cX10_isMarks 12 = .ok (.iload_n 2, 1) := by decide +kernel
theorem dX10_isMarks_13 : decode cX10_isMarks 13 = .ok (.iconst 4, 1) := by decide +kernel
theorem dX10_isMarks_14 : decode cX10_isMarks 14 = .ok (.if_icmp .ge 32, 3) := by decide +kernel
theorem dX10_isMarks_17 : decode cX10_isMarks 17 = .ok (.iload_n 1, 1) := by decide +kernel
theorem dX10_isMarks_18 : decode cX10_isMarks 18 = .ok (.ifCond .eq 20, 3) := by decide +kernel
theorem dX10_isMarks_21 : decode cX10_isMarks 21 = .ok (.iload_n 0, 1) := by decide +kernel
theorem dX10_isMarks_22 : decode cX10_isMarks 22 = .ok (.iconst 5, 1) := by decide +kernel
theorem dX10_isMarks_23 : decode cX10_isMarks 23 = .ok (.iload_n 2, 1) := by decide +kernel
theorem dX10_isMarks_24 : decode cX10_isMarks 24 = .ok (.imul, 1) := by decide +kernel
theorem dX10_isMarks_25 : decode cX10_isMarks 25 = .ok (.ishr, 1) := by decide +kernel
theorem dX10_isMarks_26 : decode cX10_isMarks 26 = .ok (.bipush 31, 2) := by decide +kernel
theorem dX10_isMarks_28 : decode cX10_isMarks 28 = .ok (.iand, 1) := by decide +kernel
theorem dX10_isMarks_29 : decode cX10_isMarks 29 = .ok (.bipush 20, 2) := by decide +kernel
theorem dX10_isMarks_31 : decode cX10_isMarks 31 = .ok (.if_icmp .gt 7, 3) := by decide +kernel
theorem dX10_isMarks_34 : decode cX10_isMarks 34 = .ok (.iconst 1, 1) := by decide +kernel
theorem dX10_isMarks_35 : decode cX10_isMarks 35 = .ok (.goto 4, 3) := by decide +kernel
theorem dX10_isMarks_38 : decode cX10_isMarks 38 = .ok (.iconst 0, 1) := by decide +kernel
theorem dX10_isMarks_39 : decode cX10_isMarks 39 = .ok (.istore_n 1, 1) := by decide +kernel
theorem dX10_isMarks_40 : decode cX10_isMarks 40 = .ok (.iinc 2 1, 3) := by decide +kernel
theorem dX10_isMarks_43 : decode cX10_isMarks 43 = .ok (.goto (-31), 3) := by decide +kernel
theorem dX10_isMarks_46 : decode cX10_isMarks 46 = .ok (.iload_n 1, 1) := by decide +kernel
theorem dX10_isMarks_47 : decode cX10_isMarks 47 = .ok (.ireturn, 1) := by decide +kernel
theorem dX10_account_0 : decode cX10_account 0 = .ok (.iload_n 1, 1) := by decide +kernel
theorem dX10_account_1 : decode cX10_account 1 = .ok (.invokestatic 237, 3) := by decide +kernel
theorem dX10_account_4 : decode cX10_account 4 = .ok (.ifCond .eq 10, 3) := by decide +kernel
theorem dX10_account_7 : decode cX10_account 7 = .ok (.iload_n 2, 1) := by decide +kernel
theorem dX10_account_8 : decode cX10_account 8 = .ok (.invokestatic 237, 3) := by decide +kernel
theorem dX10_account_11 : decode cX10_account 11 = .ok (.ifCond .ne 5, 3) := by decide +kernel
theorem dX10_account_14 : decode cX10_account 14 = .ok (.iconst (-1), 1) := by decide +kernel
theorem dX10_account_15 : decode cX10_account 15 = .ok (.ireturn, 1) := by decide +kernel
theorem dX10_account_16 : decode cX10_account 16 = .ok (.aload_n 0, 1) := by decide +kernel
theorem dX10_account_17 : decode cX10_account 17 = .ok (.getfield 240, 3) := by decide +kernel
theorem dX10_account_20 : decode cX10_account 20 = .ok (.bipush 8, 2) := by decide +kernel
theorem dX10_account_22 : decode cX10_account 22 = .ok (.if_icmp .ne 6, 3) := by decide +kernel
theorem dX10_account_25 : decode cX10_account 25 = .ok (.bipush (-3), 2) := by decide +kernel
theorem dX10_account_27 : decode cX10_account 27 = .ok (.ireturn, 1) := by decide +kernel
theorem dX10_account_28 : decode cX10_account 28 = .ok (.aload_n 0, 1) := by decide +kernel
theorem dX10_account_29 : decode cX10_account 29 = .ok (.getfield 60, 3) := by decide +kernel
theorem dX10_account_32 : decode cX10_account 32 = .ok (.aload_n 0, 1) := by decide +kernel
theorem dX10_account_33 : decode cX10_account 33 = .ok (.getfield 240, 3) := by decide +kernel
theorem dX10_account_36 : decode cX10_account 36 = .ok (.iload_n 1, 1) := by decide +kernel
theorem dX10_account_37 : decode cX10_account 37 = .ok (.iastore, 1) := by decide +kernel
theorem dX10_account_38 : decode cX10_account 38 = .ok (.aload_n 0, 1) := by decide +kernel
theorem dX10_account_39 : decode cX10_account 39 = .ok (.getfield 63, 3) := by decide +kernel
theorem dX10_account_42 : decode cX10_account 42 = .ok (.aload_n 0, 1) := by decide +kernel
theorem dX10_account_43 : decode cX10_account 43 = .ok (.getfield 240, 3) := by decide +kernel
theorem dX10_account_46 : decode cX10_account 46 = .ok (.iload_n 2, 1) := by decide +kernel
theorem dX10_account_47 : decode cX10_account 47 = .ok (.iastore, 1) := by decide +kernel
theorem dX10_account_48 : decode cX10_account 48 = .ok (.aload_n 0, 1) := by decide +kernel
theorem dX10_account_49 : decode cX10_account 49 = .ok (.dup, 1) := by decide +kernel
theorem dX10_account_50 : decode cX10_account 50 = .ok (.getfield 240, 3) := by decide +kernel
theorem dX10_account_53 : decode cX10_account 53 = .ok (.iconst 1, 1) := by decide +kernel
theorem dX10_account_54 : decode cX10_account 54 = .ok (.iadd, 1) := by decide +kernel
theorem dX10_account_55 : decode cX10_account 55 = .ok (.putfield 240, 3) := by decide +kernel
theorem dX10_account_58 : decode cX10_account 58 = .ok (.aload_n 0, 1) := by decide +kernel
theorem dX10_account_59 : decode cX10_account 59 = .ok (.getfield 240, 3) := by decide +kernel
theorem dX10_account_62 : decode cX10_account 62 = .ok (.iconst 1, 1) := by decide +kernel
theorem dX10_account_63 : decode cX10_account 63 = .ok (.isub, 1) := by decide +kernel
theorem dX10_account_64 : decode cX10_account 64 = .ok (.ireturn, 1) := by decide +kernel
theorem dX10_listed_0 : decode cX10_listed 0 = .ok (.iload_n 0, 1) := by decide +kernel
theorem dX10_listed_1 : decode cX10_listed 1 = .ok (.ifCond .ne 7, 3) := by decide +kernel
theorem dX10_listed_4 : decode cX10_listed 4 = .ok (.iconst 1, 1) := by decide +kernel
theorem dX10_listed_5 : decode cX10_listed 5 = .ok (.goto 63, 3) := by decide +kernel
theorem dX10_listed_8 : decode cX10_listed 8 = .ok (.iload_n 0, 1) := by decide +kernel
theorem dX10_listed_9 : decode cX10_listed 9 = .ok (.iconst 1, 1) := by decide +kernel
theorem dX10_listed_10 : decode cX10_listed 10 = .ok (.if_icmp .ne 7, 3) := by decide +kernel
theorem dX10_listed_13 : decode cX10_listed 13 = .ok (.iconst 2, 1) := by decide +kernel
theorem dX10_listed_14 : decode cX10_listed 14 = .ok (.goto 54, 3) := by decide +kernel
theorem dX10_listed_17 : decode cX10_listed 17 = .ok (.iload_n 0, 1) := by decide +kernel
theorem dX10_listed_18 : decode cX10_listed 18 = .ok (.iconst 2, 1) := by decide +kernel
theorem dX10_listed_19 : decode cX10_listed 19 = .ok (.if_icmp .ne 7, 3) := by decide +kernel
theorem dX10_listed_22 : decode cX10_listed 22 = .ok (.iconst 4, 1) := by decide +kernel
theorem dX10_listed_23 : decode cX10_listed 23 = .ok (.goto 45, 3) := by decide +kernel
theorem dX10_listed_26 : decode cX10_listed 26 = .ok (.iload_n 0, 1) := by decide +kernel
theorem dX10_listed_27 : decode cX10_listed 27 = .ok (.iconst 3, 1) := by decide +kernel
theorem dX10_listed_28 : decode cX10_listed 28 = .ok (.if_icmp .ne 7, 3) := by decide +kernel
theorem dX10_listed_31 : decode cX10_listed 31 = .ok (.iconst 5, 1) := by decide +kernel
theorem dX10_listed_32 : decode cX10_listed 32 = .ok (.goto 36, 3) := by decide +kernel
theorem dX10_listed_35 : decode cX10_listed 35 = .ok (.iload_n 0, 1) := by decide +kernel
theorem dX10_listed_36 : decode cX10_listed 36 = .ok (.iconst 4, 1) := by decide +kernel
theorem dX10_listed_37 : decode cX10_listed 37 = .ok (.if_icmp .ne 8, 3) := by decide +kernel
theorem dX10_listed_40 : decode cX10_listed 40 = .ok (.bipush 6, 2) := by decide +kernel
theorem dX10_listed_42 : decode cX10_listed 42 = .ok (.goto 26, 3) := by decide +kernel
theorem dX10_listed_45 : decode cX10_listed 45 = .ok (.iload_n 0, 1) := by decide +kernel
theorem dX10_listed_46 : decode cX10_listed 46 = .ok (.iconst 5, 1) := by decide +kernel
theorem dX10_listed_47 : decode cX10_listed 47 = .ok (.if_icmp .ne 8, 3) := by decide +kernel
theorem dX10_listed_50 : decode cX10_listed 50 = .ok (.bipush 10, 2) := by decide +kernel
theorem dX10_listed_52 : decode cX10_listed 52 = .ok (.goto 16, 3) := by decide +kernel
theorem dX10_listed_55 : decode cX10_listed 55 = .ok (.iload_n 0, 1) := by decide +kernel
theorem dX10_listed_56 : decode cX10_listed 56 = .ok (.bipush 6, 2) := by decide +kernel
theorem dX10_listed_58 : decode cX10_listed 58 = .ok (.if_icmp .ne 8, 3) := by decide +kernel
theorem dX10_listed_61 : decode cX10_listed 61 = .ok (.bipush 12, 2) := by decide +kernel
theorem dX10_listed_63 : decode cX10_listed 63 = .ok (.goto 5, 3) := by decide +kernel
theorem dX10_listed_66 : decode cX10_listed 66 = .ok (.bipush 60, 2) := by decide +kernel
theorem dX10_listed_68 : decode cX10_listed 68 = .ok (.ireturn, 1) := by decide +kernel
theorem dX10_doAddUp_0 : decode cX10_doAddUp 0 = .ok (.iconst 1, 1) := by decide +kernel
theorem dX10_doAddUp_1 : decode cX10_doAddUp 1 = .ok (.istore_n 1, 1) := by decide +kernel
theorem dX10_doAddUp_2 : decode cX10_doAddUp 2 = .ok (.iconst 0, 1) := by decide +kernel
theorem dX10_doAddUp_3 : decode cX10_doAddUp 3 = .ok (.istore_n 2, 1) := by decide +kernel
theorem dX10_doAddUp_4 : decode cX10_doAddUp 4 = .ok (.iload_n 2, 1) := by decide +kernel
theorem dX10_doAddUp_5 : decode cX10_doAddUp 5 = .ok (.aload_n 0, 1) := by decide +kernel
theorem dX10_doAddUp_6 : decode cX10_doAddUp 6 = .ok (.getfield 240, 3) := by decide +kernel
theorem dX10_doAddUp_9 : decode cX10_doAddUp 9 = .ok (.if_icmp .ge 83, 3) := by decide +kernel
theorem dX10_doAddUp_12 : decode cX10_doAddUp 12 = .ok (.iload_n 1, 1) := by decide +kernel
theorem dX10_doAddUp_13 : decode cX10_doAddUp 13 = .ok (.ifCond .eq 79, 3) := by decide +kernel
theorem dX10_doAddUp_16 : decode cX10_doAddUp 16 = .ok (.iconst 0, 1) := by decide +kernel
theorem dX10_doAddUp_17 : decode cX10_doAddUp 17 = .ok (.istore_n 3, 1) := by decide +kernel
theorem dX10_doAddUp_18 : decode cX10_doAddUp 18 = .ok (.iconst 0, 1) := by decide +kernel
theorem dX10_doAddUp_19 : decode cX10_doAddUp 19 = .ok (.istore 4, 2) := by decide +kernel
theorem dX10_doAddUp_21 : decode cX10_doAddUp 21 = .ok (.iload 4, 2) := by decide +kernel
theorem dX10_doAddUp_23 : decode cX10_doAddUp 23 = .ok (.iconst 4, 1) := by decide +kernel
theorem dX10_doAddUp_24 : decode cX10_doAddUp 24 = .ok (.if_icmp .ge 52, 3) := by decide +kernel
theorem dX10_doAddUp_27 : decode cX10_doAddUp 27 = .ok (.iload_n 3, 1) := by decide +kernel
theorem dX10_doAddUp_28 : decode cX10_doAddUp 28 = .ok (.aload_n 0, 1) := by decide +kernel
theorem dX10_doAddUp_29 : decode cX10_doAddUp 29 = .ok (.getfield 66, 3) := by decide +kernel
theorem dX10_doAddUp_32 : decode cX10_doAddUp 32 = .ok (.iload 4, 2) := by decide +kernel
theorem dX10_doAddUp_34 : decode cX10_doAddUp 34 = .ok (.iaload, 1) := by decide +kernel
theorem dX10_doAddUp_35 : decode cX10_doAddUp 35 = .ok (.invokestatic 243, 3) := by decide +kernel
theorem dX10_doAddUp_38 : decode cX10_doAddUp 38 = .ok (.aload_n 0, 1) := by decide +kernel
theorem dX10_doAddUp_39 : decode cX10_doAddUp 39 = .ok (.getfield 60, 3) := by decide +kernel
theorem dX10_doAddUp_42 : decode cX10_doAddUp 42 = .ok (.iload_n 2, 1) := by decide +kernel
theorem dX10_doAddUp_43 : decode cX10_doAddUp 43 = .ok (.iaload, 1) := by decide +kernel
theorem dX10_doAddUp_44 : decode cX10_doAddUp 44 = .ok (.iconst 5, 1) := by decide +kernel
theorem dX10_doAddUp_45 : decode cX10_doAddUp 45 = .ok (.iload 4, 2) := by decide +kernel
theorem dX10_doAddUp_47 : decode cX10_doAddUp 47 = .ok (.imul, 1) := by decide +kernel
theorem dX10_doAddUp_48 : decode cX10_doAddUp 48 = .ok (.ishr, 1) := by decide +kernel
theorem dX10_doAddUp_49 : decode cX10_doAddUp 49 = .ok (.bipush 31, 2) := by decide +kernel
theorem dX10_doAddUp_51 : decode cX10_doAddUp 51 = .ok (.iand, 1) := by decide +kernel
theorem dX10_doAddUp_52 : decode cX10_doAddUp 52 = .ok (.aload_n 0, 1) := by decide +kernel
theorem dX10_doAddUp_53 : decode cX10_doAddUp 53 = .ok (.getfield 63, 3) := by decide +kernel
theorem dX10_doAddUp_56 : decode cX10_doAddUp 56 = .ok (.iload_n 2, 1) := by decide +kernel
theorem dX10_doAddUp_57 : decode cX10_doAddUp 57 = .ok (.iaload, 1) := by decide +kernel
theorem dX10_doAddUp_58 : decode cX10_doAddUp 58 = .ok (.iconst 5, 1) := by decide +kernel
theorem dX10_doAddUp_59 : decode cX10_doAddUp 59 = .ok (.iload 4, 2) := by decide +kernel
theorem dX10_doAddUp_61 : decode cX10_doAddUp 61 = .ok (.imul, 1) := by decide +kernel
theorem dX10_doAddUp_62 : decode cX10_doAddUp 62 = .ok (.ishr, 1) := by decide +kernel
theorem dX10_doAddUp_63 : decode cX10_doAddUp 63 = .ok (.bipush 31, 2) := by decide +kernel
theorem dX10_doAddUp_65 : decode cX10_doAddUp 65 = .ok (.iand, 1) := by decide +kernel
theorem dX10_doAddUp_66 : decode cX10_doAddUp 66 = .ok (.isub, 1) := by decide +kernel
theorem dX10_doAddUp_67 : decode cX10_doAddUp 67 = .ok (.imul, 1) := by decide +kernel
theorem dX10_doAddUp_68 : decode cX10_doAddUp 68 = .ok (.iadd, 1) := by decide +kernel
theorem dX10_doAddUp_69 : decode cX10_doAddUp 69 = .ok (.istore_n 3, 1) := by decide +kernel
theorem dX10_doAddUp_70 : decode cX10_doAddUp 70 = .ok (.iinc 4 1, 3) := by decide +kernel
theorem dX10_doAddUp_73 : decode cX10_doAddUp 73 = .ok (.goto (-52), 3) := by decide +kernel
theorem dX10_doAddUp_76 : decode cX10_doAddUp 76 = .ok (.iload_n 3, 1) := by decide +kernel
theorem dX10_doAddUp_77 : decode cX10_doAddUp 77 = .ok (.ifCond .ne 7, 3) := by decide +kernel
theorem dX10_doAddUp_80 : decode cX10_doAddUp 80 = .ok (.iconst 1, 1) := by decide +kernel
theorem dX10_doAddUp_81 : decode cX10_doAddUp 81 = .ok (.goto 4, 3) := by decide +kernel
theorem dX10_doAddUp_84 : decode cX10_doAddUp 84 = .ok (.iconst 0, 1) := by decide +kernel
theorem dX10_doAddUp_85 : decode cX10_doAddUp 85 = .ok (.istore_n 1, 1) := by decide +kernel
theorem dX10_doAddUp_86 : decode cX10_doAddUp 86 = .ok (.iinc 2 1, 3) := by decide +kernel
theorem dX10_doAddUp_89 : decode cX10_doAddUp 89 = .ok (.goto (-85), 3) := by decide +kernel
theorem dX10_doAddUp_92 : decode cX10_doAddUp 92 = .ok (.iload_n 1, 1) := by decide +kernel
theorem dX10_doAddUp_93 : decode cX10_doAddUp 93 = .ok (.ireturn, 1) := by decide +kernel
theorem dX10_findValues_0 : decode cX10_findValues 0 = .ok (.aload_n 0, 1) := by decide +kernel
theorem dX10_findValues_1 : decode cX10_findValues 1 = .ok (.iconst 0, 1) := by decide +kernel
theorem dX10_findValues_2 : decode cX10_findValues 2 = .ok (.putfield 246, 3) := by decide +kernel
theorem dX10_findValues_5 : decode cX10_findValues 5 = .ok (.iconst 0, 1) := by decide +kernel
theorem dX10_findValues_6 : decode cX10_findValues 6 = .ok (.istore_n 1, 1) := by decide +kernel
theorem dX10_findValues_7 : decode cX10_findValues 7 = .ok (.iload_n 1, 1) := by decide +kernel
theorem dX10_findValues_8 : decode cX10_findValues 8 = .ok (.bipush 32, 2) := by decide +kernel
theorem dX10_findValues_10 : decode cX10_findValues 10 = .ok (.if_icmp .ge 16, 3) := by decide +kernel
theorem dX10_findValues_13 : decode cX10_findValues 13 = .ok (.aload_n 0, 1) := by decide +kernel
theorem dX10_findValues_14 : decode cX10_findValues 14 = .ok (.getfield 72, 3) := by decide +kernel
theorem dX10_findValues_17 : decode cX10_findValues 17 = .ok (.iload_n 1, 1) := by decide +kernel
theorem dX10_findValues_18 : decode cX10_findValues 18 = .ok (.iconst 0, 1) := by decide +kernel
theorem dX10_findValues_19 : decode cX10_findValues 19 = .ok (.bastore, 1) := by decide +kernel
theorem dX10_findValues_20 : decode cX10_findValues 20 = .ok (.iinc 1 1, 3) := by decide +kernel
theorem dX10_findValues_23 : decode cX10_findValues 23 = .ok (.goto (-16), 3) := by decide +kernel
theorem dX10_findValues_26 : decode cX10_findValues 26 = .ok (.iconst 0, 1) := by decide +kernel
theorem dX10_findValues_27 : decode cX10_findValues 27 = .ok (.istore_n 1, 1) := by decide +kernel
theorem dX10_findValues_28 : decode cX10_findValues 28 = .ok (.iload_n 1, 1) := by decide +kernel
theorem dX10_findValues_29 : decode cX10_findValues 29 = .ok (.sipush 4096, 3) := by decide +kernel
theorem dX10_findValues_32 : decode cX10_findValues 32 = .ok (.if_icmp .ge 173, 3) := by decide +kernel
theorem dX10_findValues_35 : decode cX10_findValues 35 = .ok (.iconst 0, 1) := by decide +kernel
theorem dX10_findValues_36 : decode cX10_findValues 36 = .ok (.istore_n 2, 1) := by decide +kernel
theorem dX10_findValues_37 : decode cX10_findValues 37 = .ok (.iload_n 2, 1) := by decide +kernel
theorem dX10_findValues_38 : decode cX10_findValues 38 = .ok (.iconst 4, 1) := by decide +kernel
theorem dX10_findValues_39 : decode cX10_findValues 39 = .ok (.if_icmp .ge 25, 3) := by decide +kernel
theorem dX10_findValues_42 : decode cX10_findValues 42 = .ok (.aload_n 0, 1) := by decide +kernel
theorem dX10_findValues_43 : decode cX10_findValues 43 = .ok (.getfield 66, 3) := by decide +kernel
theorem dX10_findValues_46 : decode cX10_findValues 46 = .ok (.iload_n 2, 1) := by decide +kernel
theorem dX10_findValues_47 : decode cX10_findValues 47 = .ok (.iload_n 1, 1) := by decide +kernel
theorem dX10_findValues_48 : decode cX10_findValues 48 = .ok (.iconst 3, 1) := by decide +kernel
theorem dX10_findValues_49 : decode cX10_findValues 49 = .ok (.iconst 3, 1) := by decide +kernel
theorem dX10_findValues_50 : decode cX10_findValues 50 = .ok (.iload_n 2, 1) := by decide +kernel
theorem dX10_findValues_51 : decode cX10_findValues 51 = .ok (.isub, 1) := by decide +kernel
theorem dX10_findValues_52 : decode cX10_findValues 52 = .ok (.imul, 1) := by decide +kernel
theorem dX10_findValues_53 : decode cX10_findValues 53 = .ok (.ishr, 1) := by decide +kernel
theorem dX10_findValues_54 : decode cX10_findValues 54 = .ok (.bipush 7, 2) := by decide +kernel
theorem dX10_findValues_56 : decode cX10_findValues 56 = .ok (.iand, 1) := by decide +kernel
theorem dX10_findValues_57 : decode cX10_findValues 57 = .ok (.iastore, 1) := by decide +kernel
theorem dX10_findValues_58 : decode cX10_findValues 58 = .ok (.iinc 2 1, 3) := by decide +kernel
theorem dX10_findValues_61 : decode cX10_findValues 61 = .ok (.goto (-24), 3) := by decide +kernel
theorem dX10_findValues_64 : decode cX10_findValues 64 = .ok (.iconst 1, 1) := by decide +kernel
theorem dX10_findValues_65 : decode cX10_findValues 65 = .ok (.istore_n 2, 1) := by decide +kernel
theorem dX10_findValues_66 : decode cX10_findValues 66 = .ok (.iconst 0, 1) := by decide +kernel
theorem dX10_findValues_67 : decode cX10_findValues 67 = .ok (.istore_n 3, 1) := by decide +kernel
theorem dX10_findValues_68 : decode cX10_findValues 68 = .ok (.iload_n 3, 1) := by decide +kernel
theorem dX10_findValues_69 : decode cX10_findValues 69 = .ok (.iconst 4, 1) := by decide +kernel
theorem dX10_findValues_70 : decode cX10_findValues 70 = .ok (.if_icmp .ge 50, 3) := by decide +kernel
theorem dX10_findValues_73 : decode cX10_findValues 73 = .ok (.iconst 0, 1) := by decide +kernel
theorem dX10_findValues_74 : decode cX10_findValues 74 = .ok (.istore 4, 2) := by decide +kernel
theorem dX10_findValues_76 : decode cX10_findValues 76 = .ok (.iload 4, 2) := by decide +kernel
theorem dX10_findValues_78 : decode cX10_findValues 78 = .ok (.iload_n 3, 1) := by decide +kernel
theorem dX10_findValues_79 : decode cX10_findValues 79 = .ok (.if_icmp .ge 35, 3) := by decide +kernel
theorem dX10_findValues_82 : decode cX10_findValues 82 = .ok (.iload_n 2, 1) := by decide +kernel
theorem dX10_findValues_83 : decode cX10_findValues 83 = .ok (.ifCond .eq 23, 3) := by decide +kernel
theorem dX10_findValues_86 : decode cX10_findValues 86 = .ok (.aload_n 0, 1) := by decide +kernel
theorem dX10_findValues_87 : decode cX10_findValues 87 = .ok (.getfield 66, 3) := by decide +kernel
theorem dX10_findValues_90 : decode cX10_findValues 90 = .ok (.iload_n 3, 1) := by decide +kernel
theorem dX10_findValues_91 : decode cX10_findValues 91 = .ok (.iaload, 1) := by decide +kernel
theorem dX10_findValues_92 : decode cX10_findValues 92 = .ok (.aload_n 0, 1) := by decide +kernel
theorem dX10_findValues_93 : decode cX10_findValues 93 = .ok (.getfield 66, 3) := by decide +kernel
theorem dX10_findValues_96 : decode cX10_findValues 96 = .ok (.iload 4, 2) := by decide +kernel
theorem dX10_findValues_98 : decode cX10_findValues 98 = .ok (.iaload, 1) := by decide +kernel
theorem dX10_findValues_99 : decode cX10_findValues 99 = .ok (.if_icmp .eq 7, 3) := by decide +kernel
theorem dX10_findValues_102 : decode cX10_findValues 102 = .ok (.iconst 1, 1) := by decide +kernel
theorem dX10_findValues_103 : decode cX10_findValues 103 = .ok (.goto 4, 3) := by decide +kernel
theorem dX10_findValues_106 : decode cX10_findValues 106 = .ok (.iconst 0, 1) := by decide +kernel
theorem dX10_findValues_107 : decode cX10_findValues 107 = .ok (.istore_n 2, 1) := by decide +kernel
theorem dX10_findValues_108 : decode cX10_findValues 108 = .ok (.iinc 4 1, 3) := by decide +kernel
theorem dX10_findValues_111 : decode cX10_findValues 111 = .ok (.goto (-35), 3) := by decide +kernel
theorem dX10_findValues_114 : decode cX10_findValues 114 = .ok (.iinc 3 1, 3) := by decide +kernel
theorem dX10_findValues_117 : decode cX10_findValues 117 = .ok (.goto (-49), 3) := by decide +kernel
theorem dX10_findValues_120 : decode cX10_findValues 120 = .ok (.iload_n 2, 1) := by decide +kernel
theorem dX10_findValues_121 : decode cX10_findValues 121 = .ok (.ifCond .eq 78, 3) := by decide +kernel
theorem dX10_findValues_124 : decode cX10_findValues 124 = .ok (.aload_n 0, 1) := by decide +kernel
theorem dX10_findValues_125 : decode cX10_findValues 125 = .ok (.invokevirtual 249, 3) := by decide +kernel
theorem dX10_findValues_128 : decode cX10_findValues 128 = .ok (.ifCond .eq 71, 3) := by decide +kernel
theorem dX10_findValues_131 : decode cX10_findValues 131 = .ok (.iconst 0, 1) := by decide +kernel
theorem dX10_findValues_132 : decode cX10_findValues 132 = .ok (.istore_n 3, 1) := by decide +kernel
theorem dX10_findValues_133 : decode cX10_findValues 133 = .ok (.iload_n 3, 1) := by decide +kernel
theorem dX10_findValues_134 : decode cX10_findValues 134 = .ok (.iconst 4, 1) := by decide +kernel
theorem dX10_findValues_135 : decode cX10_findValues 135 = .ok (.if_icmp .ge 54, 3) := by decide +kernel
theorem dX10_findValues_138 : decode cX10_findValues 138 = .ok (.aload_n 0, 1) := by decide +kernel
theorem dX10_findValues_139 : decode cX10_findValues 139 = .ok (.getfield 69, 3) := by decide +kernel
theorem dX10_findValues_142 : decode cX10_findValues 142 = .ok (.iload_n 3, 1) := by decide +kernel
theorem dX10_findValues_143 : decode cX10_findValues 143 = .ok (.aload_n 0, 1) := by decide +kernel
theorem dX10_findValues_144 : decode cX10_findValues 144 = .ok (.getfield 246, 3) := by decide +kernel
theorem dX10_findValues_147 : decode cX10_findValues 147 = .ok (.ifCond .ne 12, 3) := by decide +kernel
theorem dX10_findValues_150 : decode cX10_findValues 150 = .ok (.aload_n 0, 1) := by decide +kernel
theorem dX10_findValues_151 : decode cX10_findValues 151 = .ok (.getfield 66, 3) := by decide +kernel
theorem dX10_findValues_154 : decode cX10_findValues 154 = .ok (.iload_n 3, 1) := by decide +kernel
theorem dX10_findValues_155 : decode cX10_findValues 155 = .ok (.iaload, 1) := by decide +kernel
theorem dX10_findValues_156 : decode cX10_findValues 156 = .ok (.goto 9, 3) := by decide +kernel
theorem dX10_findValues_159 : decode cX10_findValues 159 = .ok (.aload_n 0, 1) := by decide +kernel
theorem dX10_findValues_160 : decode cX10_findValues 160 = .ok (.getfield 69, 3) := by decide +kernel
theorem dX10_findValues_163 : decode cX10_findValues 163 = .ok (.iload_n 3, 1) := by decide +kernel
theorem dX10_findValues_164 : decode cX10_findValues 164 = .ok (.iaload, 1) := by decide +kernel
theorem dX10_findValues_165 : decode cX10_findValues 165 = .ok (.iastore, 1) := by decide +kernel
theorem dX10_findValues_166 : decode cX10_findValues 166 = .ok (.aload_n 0, 1) := by decide +kernel
theorem dX10_findValues_167 : decode cX10_findValues 167 = .ok (.getfield 72, 3) := by decide +kernel
theorem dX10_findValues_170 : decode cX10_findValues 170 = .ok (.bipush 8, 2) := by decide +kernel
theorem dX10_findValues_172 : decode cX10_findValues 172 = .ok (.iload_n 3, 1) := by decide +kernel
theorem dX10_findValues_173 : decode cX10_findValues 173 = .ok (.imul, 1) := by decide +kernel
theorem dX10_findValues_174 : decode cX10_findValues 174 = .ok (.aload_n 0, 1) := by decide +kernel
theorem dX10_findValues_175 : decode cX10_findValues 175 = .ok (.getfield 66, 3) := by decide +kernel
theorem dX10_findValues_178 : decode cX10_findValues 178 = .ok (.iload_n 3, 1) := by decide +kernel
theorem dX10_findValues_179 : decode cX10_findValues 179 = .ok (.iaload, 1) := by decide +kernel
theorem dX10_findValues_180 : decode cX10_findValues 180 = .ok (.iadd, 1) := by decide +kernel
theorem dX10_findValues_181 : decode cX10_findValues 181 = .ok (.iconst 1, 1) := by decide +kernel
theorem dX10_findValues_182 : decode cX10_findValues 182 = .ok (.bastore, 1) := by decide +kernel
theorem dX10_findValues_183 : decode cX10_findValues 183 = .ok (.iinc 3 1, 3) := by decide +kernel
theorem dX10_findValues_186 : decode cX10_findValues 186 = .ok (.goto (-53), 3) := by decide +kernel
theorem dX10_findValues_189 : decode cX10_findValues 189 = .ok (.aload_n 0, 1) := by decide +kernel
theorem dX10_findValues_190 : decode cX10_findValues 190 = .ok (.dup, 1) := by decide +kernel
theorem dX10_findValues_191 : decode cX10_findValues 191 = .ok (.getfield 246, 3) := by decide +kernel
theorem dX10_findValues_194 : decode cX10_findValues 194 = .ok (.iconst 1, 1) := by decide +kernel
theorem dX10_findValues_195 : decode cX10_findValues 195 = .ok (.iadd, 1) := by decide +kernel
theorem dX10_findValues_196 : decode cX10_findValues 196 = .ok (.putfield 246, 3) := by decide +kernel
theorem dX10_findValues_199 : decode cX10_findValues 199 = .ok (.iinc 1 1, 3) := by decide +kernel
theorem dX10_findValues_202 : decode cX10_findValues 202 = .ok (.goto (-174), 3) := by decide +kernel
theorem dX10_findValues_205 : decode cX10_findValues 205 = .ok (.return_, 1) := by decide +kernel
theorem dX10_values_0 : decode cX10_values 0 = .ok (.iload_n 1, 1) := by decide +kernel
theorem dX10_values_1 : decode cX10_values 1 = .ok (.i2l, 1) := by decide +kernel
theorem dX10_values_2 : decode cX10_values 2 = .ok (.lconst 0, 1) := by decide +kernel
theorem dX10_values_3 : decode cX10_values 3 = .ok (.ldc2_w 253, 3) := by decide +kernel
theorem dX10_values_6 : decode cX10_values 6 = .ok (.invokestatic 138, 3) := by decide +kernel
theorem dX10_values_9 : decode cX10_values 9 = .ok (.ifCond .ne 5, 3) := by decide +kernel
theorem dX10_values_12 : decode cX10_values 12 = .ok (.iconst (-1), 1) := by decide +kernel
theorem dX10_values_13 : decode cX10_values 13 = .ok (.ireturn, 1) := by decide +kernel
theorem dX10_values_14 : decode cX10_values 14 = .ok (.aload_n 0, 1) := by decide +kernel
theorem dX10_values_15 : decode cX10_values 15 = .ok (.invokevirtual 255, 3) := by decide +kernel
theorem dX10_values_18 : decode cX10_values 18 = .ok (.iload_n 1, 1) := by decide +kernel
theorem dX10_values_19 : decode cX10_values 19 = .ok (.ifCond .ne 10, 3) := by decide +kernel
theorem dX10_values_22 : decode cX10_values 22 = .ok (.aload_n 0, 1) := by decide +kernel
theorem dX10_values_23 : decode cX10_values 23 = .ok (.getfield 246, 3) := by decide +kernel
theorem dX10_values_26 : decode cX10_values 26 = .ok (.goto 26, 3) := by decide +kernel
theorem dX10_values_29 : decode cX10_values 29 = .ok (.aload_n 0, 1) := by decide +kernel
theorem dX10_values_30 : decode cX10_values 30 = .ok (.getfield 246, 3) := by decide +kernel
theorem dX10_values_33 : decode cX10_values 33 = .ok (.ifCond .ne 8, 3) := by decide +kernel
theorem dX10_values_36 : decode cX10_values 36 = .ok (.bipush (-4), 2) := by decide +kernel
theorem dX10_values_38 : decode cX10_values 38 = .ok (.goto 14, 3) := by decide +kernel
theorem dX10_values_41 : decode cX10_values 41 = .ok (.aload_n 0, 1) := by decide +kernel
theorem dX10_values_42 : decode cX10_values 42 = .ok (.getfield 69, 3) := by decide +kernel
theorem dX10_values_45 : decode cX10_values 45 = .ok (.iload_n 1, 1) := by decide +kernel
theorem dX10_values_46 : decode cX10_values 46 = .ok (.iconst 1, 1) := by decide +kernel
theorem dX10_values_47 : decode cX10_values 47 = .ok (.isub, 1) := by decide +kernel
theorem dX10_values_48 : decode cX10_values 48 = .ok (.iaload, 1) := by decide +kernel
theorem dX10_values_49 : decode cX10_values 49 = .ok (.invokestatic 243, 3) := by decide +kernel
theorem dX10_values_52 : decode cX10_values 52 = .ok (.ireturn, 1) := by decide +kernel
theorem dX10_sure_0 : decode cX10_sure 0 = .ok (.iload_n 1, 1) := by decide +kernel
theorem dX10_sure_1 : decode cX10_sure 1 = .ok (.i2l, 1) := by decide +kernel
theorem dX10_sure_2 : decode cX10_sure 2 = .ok (.lconst 0, 1) := by decide +kernel
theorem dX10_sure_3 : decode cX10_sure 3 = .ok (.ldc2_w 158, 3) := by decide +kernel
theorem dX10_sure_6 : decode cX10_sure 6 = .ok (.invokestatic 138, 3) := by decide +kernel
theorem dX10_sure_9 : decode cX10_sure 9 = .ok (.ifCond .ne 5, 3) := by decide +kernel
theorem dX10_sure_12 : decode cX10_sure 12 = .ok (.iconst (-1), 1) := by decide +kernel
theorem dX10_sure_13 : decode cX10_sure 13 = .ok (.ireturn, 1) := by decide +kernel
theorem dX10_sure_14 : decode cX10_sure 14 = .ok (.aload_n 0, 1) := by decide +kernel
theorem dX10_sure_15 : decode cX10_sure 15 = .ok (.invokevirtual 255, 3) := by decide +kernel
theorem dX10_sure_18 : decode cX10_sure 18 = .ok (.iconst 0, 1) := by decide +kernel
theorem dX10_sure_19 : decode cX10_sure 19 = .ok (.istore_n 2, 1) := by decide +kernel
theorem dX10_sure_20 : decode cX10_sure 20 = .ok (.iconst 0, 1) := by decide +kernel
theorem dX10_sure_21 : decode cX10_sure 21 = .ok (.istore_n 3, 1) := by decide +kernel
theorem dX10_sure_22 : decode cX10_sure 22 = .ok (.iload_n 3, 1) := by decide +kernel
theorem dX10_sure_23 : decode cX10_sure 23 = .ok (.bipush 8, 2) := by decide +kernel
theorem dX10_sure_25 : decode cX10_sure 25 = .ok (.if_icmp .ge 31, 3) := by decide +kernel
theorem dX10_sure_28 : decode cX10_sure 28 = .ok (.iload_n 2, 1) := by decide +kernel
theorem dX10_sure_29 : decode cX10_sure 29 = .ok (.aload_n 0, 1) := by decide +kernel
theorem dX10_sure_30 : decode cX10_sure 30 = .ok (.getfield 72, 3) := by decide +kernel
theorem dX10_sure_33 : decode cX10_sure 33 = .ok (.bipush 8, 2) := by decide +kernel
theorem dX10_sure_35 : decode cX10_sure 35 = .ok (.iload_n 1, 1) := by decide +kernel
theorem dX10_sure_36 : decode cX10_sure 36 = .ok (.imul, 1) := by decide +kernel
theorem dX10_sure_37 : decode cX10_sure 37 = .ok (.iload_n 3, 1) := by decide +kernel
theorem dX10_sure_38 : decode cX10_sure 38 = .ok (.iadd, 1) := by decide +kernel
theorem dX10_sure_39 : decode cX10_sure 39 = .ok (.baload, 1) := by decide +kernel
theorem dX10_sure_40 : decode cX10_sure 40 = .ok (.ifCond .eq 7, 3) := by decide +kernel
theorem dX10_sure_43 : decode cX10_sure 43 = .ok (.iconst 1, 1) := by decide +kernel
theorem dX10_sure_44 : decode cX10_sure 44 = .ok (.goto 4, 3) := by decide +kernel
theorem dX10_sure_47 : decode cX10_sure 47 = .ok (.iconst 0, 1) := by decide +kernel
theorem dX10_sure_48 : decode cX10_sure 48 = .ok (.iadd, 1) := by decide +kernel
theorem dX10_sure_49 : decode cX10_sure 49 = .ok (.istore_n 2, 1) := by decide +kernel
theorem dX10_sure_50 : decode cX10_sure 50 = .ok (.iinc 3 1, 3) := by decide +kernel
theorem dX10_sure_53 : decode cX10_sure 53 = .ok (.goto (-31), 3) := by decide +kernel
theorem dX10_sure_56 : decode cX10_sure 56 = .ok (.iload_n 2, 1) := by decide +kernel
theorem dX10_sure_57 : decode cX10_sure 57 = .ok (.ireturn, 1) := by decide +kernel
theorem dX10_name_0 : decode cX10_name 0 = .ok (.iload_n 1, 1) := by decide +kernel
theorem dX10_name_1 : decode cX10_name 1 = .ok (.i2l, 1) := by decide +kernel
theorem dX10_name_2 : decode cX10_name 2 = .ok (.lconst 1, 1) := by decide +kernel
theorem dX10_name_3 : decode cX10_name 3 = .ok (.ldc2_w 258, 3) := by decide +kernel
theorem dX10_name_6 : decode cX10_name 6 = .ok (.invokestatic 138, 3) := by decide +kernel
theorem dX10_name_9 : decode cX10_name 9 = .ok (.ifCond .eq 20, 3) := by decide +kernel
theorem dX10_name_12 : decode cX10_name 12 = .ok (.iload_n 2, 1) := by decide +kernel
theorem dX10_name_13 : decode cX10_name 13 = .ok (.i2l, 1) := by decide +kernel
theorem dX10_name_14 : decode cX10_name 14 = .ok (.lconst 0, 1) := by decide +kernel
theorem dX10_name_15 : decode cX10_name 15 = .ok (.iconst 1, 1) := by decide +kernel
theorem dX10_name_16 : decode cX10_name 16 = .ok (.iconst 2, 1) := by decide +kernel
theorem dX10_name_17 : decode cX10_name 17 = .ok (.iload_n 1, 1) := by decide +kernel
theorem dX10_name_18 : decode cX10_name 18 = .ok (.imul, 1) := by decide +kernel
theorem dX10_name_19 : decode cX10_name 19 = .ok (.ishl, 1) := by decide +kernel
theorem dX10_name_20 : decode cX10_name 20 = .ok (.iconst 1, 1) := by decide +kernel
theorem dX10_name_21 : decode cX10_name 21 = .ok (.isub, 1) := by decide +kernel
theorem dX10_name_22 : decode cX10_name 22 = .ok (.i2l, 1) := by decide +kernel
theorem dX10_name_23 : decode cX10_name 23 = .ok (.invokestatic 138, 3) := by decide +kernel
theorem dX10_name_26 : decode cX10_name 26 = .ok (.ifCond .ne 5, 3) := by decide +kernel
theorem dX10_name_29 : decode cX10_name 29 = .ok (.iconst (-1), 1) := by decide +kernel
theorem dX10_name_30 : decode cX10_name 30 = .ok (.ireturn, 1) := by decide +kernel
theorem dX10_name_31 : decode cX10_name 31 = .ok (.aload_n 0, 1) := by decide +kernel
theorem dX10_name_32 : decode cX10_name 32 = .ok (.getfield 260, 3) := by decide +kernel
theorem dX10_name_35 : decode cX10_name 35 = .ok (.iconst 4, 1) := by decide +kernel
theorem dX10_name_36 : decode cX10_name 36 = .ok (.if_icmp .ne 6, 3) := by decide +kernel
theorem dX10_name_39 : decode cX10_name 39 = .ok (.bipush (-3), 2) := by decide +kernel
theorem dX10_name_41 : decode cX10_name 41 = .ok (.ireturn, 1) := by decide +kernel
theorem dX10_name_42 : decode cX10_name 42 = .ok (.aload_n 0, 1) := by decide +kernel
theorem dX10_name_43 : decode cX10_name 43 = .ok (.getfield 75, 3) := by decide +kernel
theorem dX10_name_46 : decode cX10_name 46 = .ok (.aload_n 0, 1) := by decide +kernel
theorem dX10_name_47 : decode cX10_name 47 = .ok (.getfield 260, 3) := by decide +kernel
theorem dX10_name_50 : decode cX10_name 50 = .ok (.iload_n 1, 1) := by decide +kernel
theorem dX10_name_51 : decode cX10_name 51 = .ok (.iastore, 1) := by decide +kernel
theorem dX10_name_52 : decode cX10_name 52 = .ok (.aload_n 0, 1) := by decide +kernel
theorem dX10_name_53 : decode cX10_name 53 = .ok (.getfield 78, 3) := by decide +kernel
theorem dX10_name_56 : decode cX10_name 56 = .ok (.aload_n 0, 1) := by decide +kernel
theorem dX10_name_57 : decode cX10_name 57 = .ok (.getfield 260, 3) := by decide +kernel
theorem dX10_name_60 : decode cX10_name 60 = .ok (.iload_n 2, 1) := by decide +kernel
theorem dX10_name_61 : decode cX10_name 61 = .ok (.iastore, 1) := by decide +kernel
theorem dX10_name_62 : decode cX10_name 62 = .ok (.aload_n 0, 1) := by decide +kernel
theorem dX10_name_63 : decode cX10_name 63 = .ok (.dup, 1) := by decide +kernel
theorem dX10_name_64 : decode cX10_name 64 = .ok (.getfield 260, 3) := by decide +kernel
theorem dX10_name_67 : decode cX10_name 67 = .ok (.iconst 1, 1) := by decide +kernel
theorem dX10_name_68 : decode cX10_name 68 = .ok (.iadd, 1) := by decide +kernel
theorem dX10_name_69 : decode cX10_name 69 = .ok (.putfield 260, 3) := by decide +kernel
theorem dX10_name_72 : decode cX10_name 72 = .ok (.aload_n 0, 1) := by decide +kernel
theorem dX10_name_73 : decode cX10_name 73 = .ok (.getfield 260, 3) := by decide +kernel
theorem dX10_name_76 : decode cX10_name 76 = .ok (.iconst 1, 1) := by decide +kernel
theorem dX10_name_77 : decode cX10_name 77 = .ok (.isub, 1) := by decide +kernel
theorem dX10_name_78 : decode cX10_name 78 = .ok (.ireturn, 1) := by decide +kernel
theorem dX10_isName_0 : decode cX10_isName 0 = .ok (.iload_n 1, 1) := by decide +kernel
theorem dX10_isName_1 : decode cX10_isName 1 = .ok (.i2l, 1) := by decide +kernel
theorem dX10_isName_2 : decode cX10_isName 2 = .ok (.lconst 0, 1) := by decide +kernel
theorem dX10_isName_3 : decode cX10_isName 3 = .ok (.aload_n 0, 1) := by decide +kernel
theorem dX10_isName_4 : decode cX10_isName 4 = .ok (.getfield 260, 3) := by decide +kernel
theorem dX10_isName_7 : decode cX10_isName 7 = .ok (.iconst 1, 1) := by decide +kernel
theorem dX10_isName_8 : decode cX10_isName 8 = .ok (.isub, 1) := by decide +kernel
theorem dX10_isName_9 : decode cX10_isName 9 = .ok (.i2l, 1) := by decide +kernel
theorem dX10_isName_10 : decode cX10_isName 10 = .ok (.invokestatic 138, 3) := by decide +kernel
theorem dX10_isName_13 : decode cX10_isName 13 = .ok (.ireturn, 1) := by decide +kernel
theorem dX10_soundAt_0 : decode cX10_soundAt 0 = .ok (.aload_n 0, 1) := by decide +kernel
theorem dX10_soundAt_1 : decode cX10_soundAt 1 = .ok (.getfield 78, 3) := by decide +kernel
theorem dX10_soundAt_4 : decode cX10_soundAt 4 = .ok (.iload_n 1, 1) := by decide +kernel
theorem dX10_soundAt_5 : decode cX10_soundAt 5 = .ok (.iaload, 1) := by decide +kernel
theorem dX10_soundAt_6 : decode cX10_soundAt 6 = .ok (.iconst 2, 1) := by decide +kernel
theorem dX10_soundAt_7 : decode cX10_soundAt 7 = .ok (.aload_n 0, 1) := by decide +kernel
theorem dX10_soundAt_8 : decode cX10_soundAt 8 = .ok (.getfield 75, 3) := by decide +kernel
theorem dX10_soundAt_11 : decode cX10_soundAt 11 = .ok (.iload_n 1, 1) := by decide +kernel
theorem dX10_soundAt_12 : decode cX10_soundAt 12 = .ok (.iaload, 1) := by decide +kernel
theorem dX10_soundAt_13 : decode cX10_soundAt 13 = .ok (.iconst 1, 1) := by decide +kernel
theorem dX10_soundAt_14 : decode cX10_soundAt 14 = .ok (.isub, 1) := by decide +kernel
theorem dX10_soundAt_15 : decode cX10_soundAt 15 = .ok (.iload_n 2, 1) := by decide +kernel
theorem dX10_soundAt_16 : decode cX10_soundAt 16 = .ok (.isub, 1) := by decide +kernel
theorem dX10_soundAt_17 : decode cX10_soundAt 17 = .ok (.imul, 1) := by decide +kernel
theorem dX10_soundAt_18 : decode cX10_soundAt 18 = .ok (.ishr, 1) := by decide +kernel
theorem dX10_soundAt_19 : decode cX10_soundAt 19 = .ok (.iconst 3, 1) := by decide +kernel
theorem dX10_soundAt_20 : decode cX10_soundAt 20 = .ok (.iand, 1) := by decide +kernel
theorem dX10_soundAt_21 : decode cX10_soundAt 21 = .ok (.ireturn, 1) := by decide +kernel
theorem dX10_doAgree_0 : decode cX10_doAgree 0 = .ok (.iconst 1, 1) := by decide +kernel
theorem dX10_doAgree_1 : decode cX10_doAgree 1 = .ok (.istore 7, 2) := by decide +kernel
theorem dX10_doAgree_3 : decode cX10_doAgree 3 = .ok (.iconst 0, 1) := by decide +kernel
theorem dX10_doAgree_4 : decode cX10_doAgree 4 = .ok (.istore 8, 2) := by decide +kernel
theorem dX10_doAgree_6 : decode cX10_doAgree 6 = .ok (.iload 8, 2) := by decide +kernel
theorem dX10_doAgree_8 : decode cX10_doAgree 8 = .ok (.aload_n 0, 1) := by decide +kernel
theorem dX10_doAgree_9 : decode cX10_doAgree 9 = .ok (.getfield 75, 3) := by decide +kernel
theorem dX10_doAgree_12 : decode cX10_doAgree 12 = .ok (.iload_n 1, 1) := by decide +kernel
theorem dX10_doAgree_13 : decode cX10_doAgree 13 = .ok (.iaload, 1) := by decide +kernel
theorem dX10_doAgree_14 : decode cX10_doAgree 14 = .ok (.if_icmp .ge 96, 3) := by decide +kernel
theorem dX10_doAgree_17 : decode cX10_doAgree 17 = .ok (.iconst 0, 1) := by decide +kernel
theorem dX10_doAgree_18 : decode cX10_doAgree 18 = .ok (.istore 9, 2) := by decide +kernel
theorem dX10_doAgree_20 : decode cX10_doAgree 20 = .ok (.iload 9, 2) := by decide +kernel
theorem dX10_doAgree_22 : decode cX10_doAgree 22 = .ok (.aload_n 0, 1) := by decide +kernel
theorem dX10_doAgree_23 : decode cX10_doAgree 23 = .ok (.getfield 75, 3) := by decide +kernel
theorem dX10_doAgree_26 : decode cX10_doAgree 26 = .ok (.iload 4, 2) := by decide +kernel
theorem dX10_doAgree_28 : decode cX10_doAgree 28 = .ok (.iaload, 1) := by decide +kernel
theorem dX10_doAgree_29 : decode cX10_doAgree 29 = .ok (.if_icmp .ge 75, 3) := by decide +kernel
theorem dX10_doAgree_32 : decode cX10_doAgree 32 = .ok (.iload 7, 2) := by decide +kernel
theorem dX10_doAgree_34 : decode cX10_doAgree 34 = .ok (.ifCond .eq 61, 3) := by decide +kernel
theorem dX10_doAgree_37 : decode cX10_doAgree 37 = .ok (.aload_n 0, 1) := by decide +kernel
theorem dX10_doAgree_38 : decode cX10_doAgree 38 = .ok (.iload_n 2, 1) := by decide +kernel
theorem dX10_doAgree_39 : decode cX10_doAgree 39 = .ok (.iload_n 3, 1) := by decide +kernel
theorem dX10_doAgree_40 : decode cX10_doAgree 40 = .ok (.iload 8, 2) := by decide +kernel
theorem dX10_doAgree_42 : decode cX10_doAgree 42 = .ok (.iadd, 1) := by decide +kernel
theorem dX10_doAgree_43 : decode cX10_doAgree 43 = .ok (.invokevirtual 170, 3) := by decide +kernel
theorem dX10_doAgree_46 : decode cX10_doAgree 46 = .ok (.aload_n 0, 1) := by decide +kernel
theorem dX10_doAgree_47 : decode cX10_doAgree 47 = .ok (.iload 5, 2) := by decide +kernel
theorem dX10_doAgree_49 : decode cX10_doAgree 49 = .ok (.iload 6, 2) := by decide +kernel
theorem dX10_doAgree_51 : decode cX10_doAgree 51 = .ok (.iload 9, 2) := by decide +kernel
theorem dX10_doAgree_53 : decode cX10_doAgree 53 = .ok (.iadd, 1) := by decide +kernel
theorem dX10_doAgree_54 : decode cX10_doAgree 54 = .ok (.invokevirtual 170, 3) := by decide +kernel
theorem dX10_doAgree_57 : decode cX10_doAgree 57 = .ok (.if_icmp .ne 7, 3) := by decide +kernel
theorem dX10_doAgree_60 : decode cX10_doAgree 60 = .ok (.iconst 1, 1) := by decide +kernel
theorem dX10_doAgree_61 : decode cX10_doAgree 61 = .ok (.goto 4, 3) := by decide +kernel
theorem dX10_doAgree_64 : decode cX10_doAgree 64 = .ok (.iconst 0, 1) := by decide +kernel
theorem dX10_doAgree_65 : decode cX10_doAgree 65 = .ok (.aload_n 0, 1) := by decide +kernel
theorem dX10_doAgree_66 : decode cX10_doAgree 66 = .ok (.iload_n 1, 1) := by decide +kernel
theorem dX10_doAgree_67 : decode cX10_doAgree 67 = .ok (.iload 8, 2) := by decide +kernel
theorem dX10_doAgree_69 : decode cX10_doAgree 69 = .ok (.invokevirtual 263, 3) := by decide +kernel
theorem dX10_doAgree_72 : decode cX10_doAgree 72 = .ok (.aload_n 0, 1) := by decide +kernel
theorem dX10_doAgree_73 : decode cX10_doAgree 73 = .ok (.iload 4, 2) := by decide +kernel
theorem dX10_doAgree_75 : decode cX10_doAgree 75 = .ok (.iload 9, 2) := by decide +kernel
theorem dX10_doAgree_77 : decode cX10_doAgree 77 = .ok (.invokevirtual 263, 3) := by decide +kernel
theorem dX10_doAgree_80 : decode cX10_doAgree 80 = .ok (.if_icmp .ne 7, 3) := by decide +kernel
theorem dX10_doAgree_83 : decode cX10_doAgree 83 = .ok (.iconst 1, 1) := by decide +kernel
theorem dX10_doAgree_84 : decode cX10_doAgree 84 = .ok (.goto 4, 3) := by decide +kernel
theorem dX10_doAgree_87 : decode cX10_doAgree 87 = .ok (.iconst 0, 1) := by decide +kernel
theorem dX10_doAgree_88 : decode cX10_doAgree 88 = .ok (.if_icmp .ne 7, 3) := by decide +kernel
theorem dX10_doAgree_91 : decode cX10_doAgree 91 = .ok (.iconst 1, 1) := by decide +kernel
theorem dX10_doAgree_92 : decode cX10_doAgree 92 = .ok (.goto 4, 3) := by decide +kernel
theorem dX10_doAgree_95 : decode cX10_doAgree 95 = .ok (.iconst 0, 1) := by decide +kernel
theorem dX10_doAgree_96 : decode cX10_doAgree 96 = .ok (.istore 7, 2) := by decide +kernel
theorem dX10_doAgree_98 : decode cX10_doAgree 98 = .ok (.iinc 9 1, 3) := by decide +kernel
theorem dX10_doAgree_101 : decode cX10_doAgree 101 = .ok (.goto (-81), 3) := by decide +kernel
theorem dX10_doAgree_104 : decode cX10_doAgree 104 = .ok (.iinc 8 1, 3) := by decide +kernel
theorem dX10_doAgree_107 : decode cX10_doAgree 107 = .ok (.goto (-101), 3) := by decide +kernel
theorem dX10_doAgree_110 : decode cX10_doAgree 110 = .ok (.iload 7, 2) := by decide +kernel
theorem dX10_doAgree_112 : decode cX10_doAgree 112 = .ok (.ireturn, 1) := by decide +kernel
theorem dX10_doesFit_0 : decode cX10_doesFit 0 = .ok (.iload_n 3, 1) := by decide +kernel
theorem dX10_doesFit_1 : decode cX10_doesFit 1 = .ok (.aload_n 0, 1) := by decide +kernel
theorem dX10_doesFit_2 : decode cX10_doesFit 2 = .ok (.getfield 75, 3) := by decide +kernel
theorem dX10_doesFit_5 : decode cX10_doesFit 5 = .ok (.iload_n 1, 1) := by decide +kernel
theorem dX10_doesFit_6 : decode cX10_doesFit 6 = .ok (.iaload, 1) := by decide +kernel
theorem dX10_doesFit_7 : decode cX10_doesFit 7 = .ok (.iadd, 1) := by decide +kernel
theorem dX10_doesFit_8 : decode cX10_doesFit 8 = .ok (.aload_n 0, 1) := by decide +kernel
theorem dX10_doesFit_9 : decode cX10_doesFit 9 = .ok (.getfield 20, 3) := by decide +kernel
theorem dX10_doesFit_12 : decode cX10_doesFit 12 = .ok (.iload_n 2, 1) := by decide +kernel
theorem dX10_doesFit_13 : decode cX10_doesFit 13 = .ok (.iaload, 1) := by decide +kernel
theorem dX10_doesFit_14 : decode cX10_doesFit 14 = .ok (.if_icmp .le 5, 3) := by decide +kernel
theorem dX10_doesFit_17 : decode cX10_doesFit 17 = .ok (.iconst 0, 1) := by decide +kernel
theorem dX10_doesFit_18 : decode cX10_doesFit 18 = .ok (.ireturn, 1) := by decide +kernel
theorem dX10_doesFit_19 : decode cX10_doesFit 19 = .ok (.iconst 0, 1) := by decide +kernel
theorem dX10_doesFit_20 : decode cX10_doesFit 20 = .ok (.istore 4, 2) := by decide +kernel
theorem dX10_doesFit_22 : decode cX10_doesFit 22 = .ok (.iload 4, 2) := by decide +kernel
theorem dX10_doesFit_24 : decode cX10_doesFit 24 = .ok (.aload_n 0, 1) := by decide +kernel
theorem dX10_doesFit_25 : decode cX10_doesFit 25 = .ok (.getfield 75, 3) := by decide +kernel
theorem dX10_doesFit_28 : decode cX10_doesFit 28 = .ok (.iload_n 1, 1) := by decide +kernel
theorem dX10_doesFit_29 : decode cX10_doesFit 29 = .ok (.iaload, 1) := by decide +kernel
theorem dX10_doesFit_30 : decode cX10_doesFit 30 = .ok (.if_icmp .ge 23, 3) := by decide +kernel
theorem dX10_doesFit_33 : decode cX10_doesFit 33 = .ok (.aload_n 0, 1) := by decide +kernel
theorem dX10_doesFit_34 : decode cX10_doesFit 34 = .ok (.iload_n 2, 1) := by decide +kernel
theorem dX10_doesFit_35 : decode cX10_doesFit 35 = .ok (.iload_n 3, 1) := by decide +kernel
theorem dX10_doesFit_36 : decode cX10_doesFit 36 = .ok (.iload 4, 2) := by decide +kernel
theorem dX10_doesFit_38 : decode cX10_doesFit 38 = .ok (.iadd, 1) := by decide +kernel
theorem dX10_doesFit_39 : decode cX10_doesFit 39 = .ok (.invokevirtual 170, 3) := by decide +kernel
theorem dX10_doesFit_42 : decode cX10_doesFit 42 = .ok (.ifCond .ge 5, 3) := by decide +kernel
theorem dX10_doesFit_45 : decode cX10_doesFit 45 = .ok (.iconst 0, 1) := by decide +kernel
theorem dX10_doesFit_46 : decode cX10_doesFit 46 = .ok (.ireturn, 1) := by decide +kernel
theorem dX10_doesFit_47 : decode cX10_doesFit 47 = .ok (.iinc 4 1, 3) := by decide +kernel
theorem dX10_doesFit_50 : decode cX10_doesFit 50 = .ok (.goto (-28), 3) := by decide +kernel
theorem dX10_doesFit_53 : decode cX10_doesFit 53 = .ok (.aload_n 0, 1) := by decide +kernel
theorem dX10_doesFit_54 : decode cX10_doesFit 54 = .ok (.iload_n 1, 1) := by decide +kernel
theorem dX10_doesFit_55 : decode cX10_doesFit 55 = .ok (.iload_n 2, 1) := by decide +kernel
theorem dX10_doesFit_56 : decode cX10_doesFit 56 = .ok (.iload_n 3, 1) := by decide +kernel
theorem dX10_doesFit_57 : decode cX10_doesFit 57 = .ok (.iload_n 1, 1) := by decide +kernel
theorem dX10_doesFit_58 : decode cX10_doesFit 58 = .ok (.iload_n 2, 1) := by decide +kernel
theorem dX10_doesFit_59 : decode cX10_doesFit 59 = .ok (.iload_n 3, 1) := by decide +kernel
theorem dX10_doesFit_60 : decode cX10_doesFit 60 = .ok (.invokevirtual 266, 3) := by decide +kernel
theorem dX10_doesFit_63 : decode cX10_doesFit 63 = .ok (.ireturn, 1) := by decide +kernel
theorem dX10_dragged_0 : decode cX10_dragged 0 = .ok (.aload_n 0, 1) := by decide +kernel
theorem dX10_dragged_1 : decode cX10_dragged 1 = .ok (.iload_n 1, 1) := by decide +kernel
theorem dX10_dragged_2 : decode cX10_dragged 2 = .ok (.invokevirtual 270, 3) := by decide +kernel
theorem dX10_dragged_5 : decode cX10_dragged 5 = .ok (.ifCond .eq 23, 3) := by decide +kernel
theorem dX10_dragged_8 : decode cX10_dragged 8 = .ok (.aload_n 0, 1) := by decide +kernel
theorem dX10_dragged_9 : decode cX10_dragged 9 = .ok (.iload_n 2, 1) := by decide +kernel
theorem dX10_dragged_10 : decode cX10_dragged 10 = .ok (.invokevirtual 174, 3) := by decide +kernel
theorem dX10_dragged_13 : decode cX10_dragged 13 = .ok (.ifCond .eq 15, 3) := by decide +kernel
theorem dX10_dragged_16 : decode cX10_dragged 16 = .ok (.iload_n 3, 1) := by decide +kernel
theorem dX10_dragged_17 : decode cX10_dragged 17 = .ok (.i2l, 1) := by decide +kernel
theorem dX10_dragged_18 : decode cX10_dragged 18 = .ok (.lconst 0, 1) := by decide +kernel
theorem dX10_dragged_19 : decode cX10_dragged 19 = .ok (.ldc2_w 198, 3) := by decide +kernel
theorem dX10_dragged_22 : decode cX10_dragged 22 = .ok (.invokestatic 138, 3) := by decide +kernel
theorem dX10_dragged_25 : decode cX10_dragged 25 = .ok (.ifCond .ne 5, 3) := by decide +kernel
theorem dX10_dragged_28 : decode cX10_dragged 28 = .ok (.iconst (-1), 1) := by decide +kernel
theorem dX10_dragged_29 : decode cX10_dragged 29 = .ok (.ireturn, 1) := by decide +kernel
theorem dX10_dragged_30 : decode cX10_dragged 30 = .ok (.aload_n 0, 1) := by decide +kernel
theorem dX10_dragged_31 : decode cX10_dragged 31 = .ok (.aload_n 0, 1) := by decide +kernel
theorem dX10_dragged_32 : decode cX10_dragged 32 = .ok (.getfield 13, 3) := by decide +kernel
theorem dX10_dragged_35 : decode cX10_dragged 35 = .ok (.invokevirtual 150, 3) := by decide +kernel
theorem dX10_dragged_38 : decode cX10_dragged 38 = .ok (.iconst 0, 1) := by decide +kernel
theorem dX10_dragged_39 : decode cX10_dragged 39 = .ok (.istore 4, 2) := by decide +kernel
theorem dX10_dragged_41 : decode cX10_dragged 41 = .ok (.bipush (-4), 2) := by decide +kernel
theorem dX10_dragged_43 : decode cX10_dragged 43 = .ok (.istore 5, 2) := by decide +kernel
theorem dX10_dragged_45 : decode cX10_dragged 45 = .ok (.bipush (-4), 2) := by decide +kernel
theorem dX10_dragged_47 : decode cX10_dragged 47 = .ok (.istore 6, 2) := by decide +kernel
theorem dX10_dragged_49 : decode cX10_dragged 49 = .ok (.iconst 0, 1) := by decide +kernel
theorem dX10_dragged_50 : decode cX10_dragged 50 = .ok (.istore 7, 2) := by decide +kernel
theorem dX10_dragged_52 : decode cX10_dragged 52 = .ok (.iload 7, 2) := by decide +kernel
theorem dX10_dragged_54 : decode cX10_dragged 54 = .ok (.aload_n 0, 1) := by decide +kernel
theorem dX10_dragged_55 : decode cX10_dragged 55 = .ok (.getfield 20, 3) := by decide +kernel
theorem dX10_dragged_58 : decode cX10_dragged 58 = .ok (.iload_n 2, 1) := by decide +kernel
theorem dX10_dragged_59 : decode cX10_dragged 59 = .ok (.iaload, 1) := by decide +kernel
theorem dX10_dragged_60 : decode cX10_dragged 60 = .ok (.if_icmp .ge 43, 3) := by decide +kernel
theorem dX10_dragged_63 : decode cX10_dragged 63 = .ok (.aload_n 0, 1) := by decide +kernel
theorem dX10_dragged_64 : decode cX10_dragged 64 = .ok (.iload_n 1, 1) := by decide +kernel
theorem dX10_dragged_65 : decode cX10_dragged 65 = .ok (.iload_n 2, 1) := by decide +kernel
theorem dX10_dragged_66 : decode cX10_dragged 66 = .ok (.iload 7, 2) := by decide +kernel
theorem dX10_dragged_68 : decode cX10_dragged 68 = .ok (.invokevirtual 273, 3) := by decide +kernel
theorem dX10_dragged_71 : decode cX10_dragged 71 = .ok (.ifCond .eq 26, 3) := by decide +kernel
theorem dX10_dragged_74 : decode cX10_dragged 74 = .ok (.iinc 4 1, 3) := by decide +kernel
theorem dX10_dragged_77 : decode cX10_dragged 77 = .ok (.iload 5, 2) := by decide +kernel
theorem dX10_dragged_79 : decode cX10_dragged 79 = .ok (.bipush (-4), 2) := by decide +kernel
theorem dX10_dragged_81 : decode cX10_dragged 81 = .ok (.if_icmp .ne 8, 3) := by decide +kernel
theorem dX10_dragged_84 : decode cX10_dragged 84 = .ok (.iload 7, 2) := by decide +kernel
theorem dX10_dragged_86 : decode cX10_dragged 86 = .ok (.goto 5, 3) := by decide +kernel
theorem dX10_dragged_89 : decode cX10_dragged 89 = .ok (.iload 5, 2) := by decide +kernel
theorem dX10_dragged_91 : decode cX10_dragged 91 = .ok (.istore 5, 2) := by decide +kernel
theorem dX10_dragged_93 : decode cX10_dragged 93 = .ok (.iload 7, 2) := by decide +kernel
theorem dX10_dragged_95 : decode cX10_dragged 95 = .ok (.istore 6, 2) := by decide +kernel
theorem dX10_dragged_97 : decode cX10_dragged 97 = .ok (.iinc 7 1, 3) := by decide +kernel
theorem dX10_dragged_100 : decode cX10_dragged 100 = .ok (.goto (-48), 3) := by decide +kernel
theorem dX10_dragged_103 : decode cX10_dragged 103 = .ok (.iload_n 3, 1) := by decide +kernel
theorem dX10_dragged_104 : decode cX10_dragged 104 = .ok (.ifCond .ne 8, 3) := by decide +kernel
theorem dX10_dragged_107 : decode cX10_dragged 107 = .ok (.iload 4, 2) := by decide +kernel
theorem dX10_dragged_109 : decode cX10_dragged 109 = .ok (.goto 15, 3) := by decide +kernel
theorem dX10_dragged_112 : decode cX10_dragged 112 = .ok (.iload_n 3, 1) := by decide +kernel
theorem dX10_dragged_113 : decode cX10_dragged 113 = .ok (.iconst 1, 1) := by decide +kernel
theorem dX10_dragged_114 : decode cX10_dragged 114 = .ok (.if_icmp .ne 8, 3) := by decide +kernel
theorem dX10_dragged_117 : decode cX10_dragged 117 = .ok (.iload 5, 2) := by decide +kernel
theorem dX10_dragged_119 : decode cX10_dragged 119 = .ok (.goto 5, 3) := by decide +kernel
theorem dX10_dragged_122 : decode cX10_dragged 122 = .ok (.iload 6, 2) := by decide +kernel
theorem dX10_dragged_124 : decode cX10_dragged 124 = .ok (.ireturn, 1) := by decide +kernel
theorem dX10_together_0 : decode cX10_together 0 = .ok (.aload_n 0, 1) := by decide +kernel
theorem dX10_together_1 : decode cX10_together 1 = .ok (.iload_n 1, 1) := by decide +kernel
theorem dX10_together_2 : decode cX10_together 2 = .ok (.invokevirtual 270, 3) := by decide +kernel
theorem dX10_together_5 : decode cX10_together 5 = .ok (.ifCond .eq 28, 3) := by decide +kernel
theorem dX10_together_8 : decode cX10_together 8 = .ok (.aload_n 0, 1) := by decide +kernel
theorem dX10_together_9 : decode cX10_together 9 = .ok (.iload_n 2, 1) := by decide +kernel
theorem dX10_together_10 : decode cX10_together 10 = .ok (.invokevirtual 174, 3) := by decide +kernel
theorem dX10_together_13 : decode cX10_together 13 = .ok (.ifCond .eq 20, 3) := by decide +kernel
theorem dX10_together_16 : decode cX10_together 16 = .ok (.aload_n 0, 1) := by decide +kernel
theorem dX10_together_17 : decode cX10_together 17 = .ok (.iload_n 3, 1) := by decide +kernel
theorem dX10_together_18 : decode cX10_together 18 = .ok (.invokevirtual 270, 3) := by decide +kernel
theorem dX10_together_21 : decode cX10_together 21 = .ok (.ifCond .eq 12, 3) := by decide +kernel
theorem dX10_together_24 : decode cX10_together 24 = .ok (.aload_n 0, 1) := by decide +kernel
theorem dX10_together_25 : decode cX10_together 25 = .ok (.iload 4, 2) := by decide +kernel
theorem dX10_together_27 : decode cX10_together 27 = .ok (.invokevirtual 174, 3) := by decide +kernel
theorem dX10_together_30 : decode cX10_together 30 = .ok (.ifCond .ne 5, 3) := by decide +kernel
theorem dX10_together_33 : decode cX10_together 33 = .ok (.iconst (-1), 1) := by decide +kernel
theorem dX10_together_34 : decode cX10_together 34 = .ok (.ireturn, 1) := by decide +kernel
theorem dX10_together_35 : decode cX10_together 35 = .ok (.aload_n 0, 1) := by decide +kernel
theorem dX10_together_36 : decode cX10_together 36 = .ok (.aload_n 0, 1) := by decide +kernel
theorem dX10_together_37 : decode cX10_together 37 = .ok (.getfield 13, 3) := by decide +kernel
theorem dX10_together_40 : decode cX10_together 40 = .ok (.invokevirtual 150, 3) := by decide +kernel
theorem dX10_together_43 : decode cX10_together 43 = .ok (.iconst 0, 1) := by decide +kernel
theorem dX10_together_44 : decode cX10_together 44 = .ok (.istore 5, 2) := by decide +kernel
theorem dX10_together_46 : decode cX10_together 46 = .ok (.iconst 0, 1) := by decide +kernel
theorem dX10_together_47 : decode cX10_together 47 = .ok (.istore 6, 2) := by decide +kernel
theorem dX10_together_49 : decode cX10_together 49 = .ok (.iload 6, 2) := by decide +kernel
theorem dX10_together_51 : decode cX10_together 51 = .ok (.aload_n 0, 1) := by decide +kernel
theorem dX10_together_52 : decode cX10_together 52 = .ok (.getfield 20, 3) := by decide +kernel
theorem dX10_together_55 : decode cX10_together 55 = .ok (.iload_n 2, 1) := by decide +kernel
theorem dX10_together_56 : decode cX10_together 56 = .ok (.iaload, 1) := by decide +kernel
theorem dX10_together_57 : decode cX10_together 57 = .ok (.if_icmp .ge 79, 3) := by decide +kernel
theorem dX10_together_60 : decode cX10_together 60 = .ok (.iconst 0, 1) := by decide +kernel
theorem dX10_together_61 : decode cX10_together 61 = .ok (.istore 7, 2) := by decide +kernel
theorem dX10_together_63 : decode cX10_together 63 = .ok (.iload 7, 2) := by decide +kernel
theorem dX10_together_65 : decode cX10_together 65 = .ok (.aload_n 0, 1) := by decide +kernel
theorem dX10_together_66 : decode cX10_together 66 = .ok (.getfield 20, 3) := by decide +kernel
theorem dX10_together_69 : decode cX10_together 69 = .ok (.iload 4, 2) := by decide +kernel
theorem dX10_together_71 : decode cX10_together 71 = .ok (.iaload, 1) := by decide +kernel
theorem dX10_together_72 : decode cX10_together 72 = .ok (.if_icmp .ge 58, 3) := by decide +kernel
theorem dX10_together_75 : decode cX10_together 75 = .ok (.aload_n 0, 1) := by decide +kernel
theorem dX10_together_76 : decode cX10_together 76 = .ok (.iload_n 1, 1) := by decide +kernel
theorem dX10_together_77 : decode cX10_together 77 = .ok (.iload_n 2, 1) := by decide +kernel
theorem dX10_together_78 : decode cX10_together 78 = .ok (.iload 6, 2) := by decide +kernel
theorem dX10_together_80 : decode cX10_together 80 = .ok (.invokevirtual 273, 3) := by decide +kernel
theorem dX10_together_83 : decode cX10_together 83 = .ok (.ifCond .eq 47, 3) := by decide +kernel
theorem dX10_together_86 : decode cX10_together 86 = .ok (.iload 5, 2) := by decide +kernel
theorem dX10_together_88 : decode cX10_together 88 = .ok (.aload_n 0, 1) := by decide +kernel
theorem dX10_together_89 : decode cX10_together 89 = .ok (.iload_n 3, 1) := by decide +kernel
theorem dX10_together_90 : decode cX10_together 90 = .ok (.iload 4, 2) := by decide +kernel
theorem dX10_together_92 : decode cX10_together 92 = .ok (.iload 7, 2) := by decide +kernel
theorem dX10_together_94 : decode cX10_together 94 = .ok (.invokevirtual 273, 3) := by decide +kernel
theorem dX10_together_97 : decode cX10_together 97 = .ok (.ifCond .eq 23, 3) := by decide +kernel
theorem dX10_together_100 : decode cX10_together 100 = .ok (.aload_n 0, 1) := by decide +kernel
theorem dX10_together_101 : decode cX10_together 101 = .ok (.iload_n 1, 1) := by decide +kernel
theorem dX10_together_102 : decode cX10_together 102 = .ok (.iload_n 2, 1) := by decide +kernel
theorem dX10_together_103 : decode cX10_together 103 = .ok (.iload 6, 2) := by decide +kernel
theorem dX10_together_105 : decode cX10_together 105 = .ok (.iload_n 3, 1) := by decide +kernel
theorem dX10_together_106 : decode cX10_together 106 = .ok (.iload 4, 2) := by decide +kernel
theorem dX10_together_108 : decode cX10_together 108 = .ok (.iload 7, 2) := by decide +kernel
theorem dX10_together_110 : decode cX10_together 110 = .ok (.invokevirtual 266, 3) := by decide +kernel
theorem dX10_together_113 : decode cX10_together 113 = .ok (.ifCond .eq 7, 3) := by decide +kernel
theorem dX10_together_116 : decode cX10_together 116 = .ok (.iconst 1, 1) := by decide +kernel
theorem dX10_together_117 : decode cX10_together 117 = .ok (.goto 4, 3) := by decide +kernel
theorem dX10_together_120 : decode cX10_together 120 = .ok (.iconst 0, 1) := by decide +kernel
theorem dX10_together_121 : decode cX10_together 121 = .ok (.iadd, 1) := by decide +kernel
theorem dX10_together_122 : decode cX10_together 122 = .ok (.istore 5, 2) := by decide +kernel
theorem dX10_together_124 : decode cX10_together 124 = .ok (.iinc 7 1, 3) := by decide +kernel
theorem dX10_together_127 : decode cX10_together 127 = .ok (.goto (-64), 3) := by decide +kernel
theorem dX10_together_130 : decode cX10_together 130 = .ok (.iinc 6 1, 3) := by decide +kernel
theorem dX10_together_133 : decode cX10_together 133 = .ok (.goto (-84), 3) := by decide +kernel
theorem dX10_together_136 : decode cX10_together 136 = .ok (.iload 5, 2) := by decide +kernel
theorem dX10_together_138 : decode cX10_together 138 = .ok (.ireturn, 1) := by decide +kernel
theorem dX10_word_0 : decode cX10_word 0 = .ok (.iload_n 1, 1) := by decide +kernel
theorem dX10_word_1 : decode cX10_word 1 = .ok (.i2l, 1) := by decide +kernel
theorem dX10_word_2 : decode cX10_word 2 = .ok (.lconst 1, 1) := by decide +kernel
theorem dX10_word_3 : decode cX10_word 3 = .ok (.ldc2_w 277, 3) := by decide +kernel
theorem dX10_word_6 : decode cX10_word 6 = .ok (.invokestatic 138, 3) := by decide +kernel
theorem dX10_word_9 : decode cX10_word 9 = .ok (.ifCond .eq 20, 3) := by decide +kernel
theorem dX10_word_12 : decode cX10_word 12 = .ok (.iload_n 2, 1) := by decide +kernel
theorem dX10_word_13 : decode cX10_word 13 = .ok (.i2l, 1) := by decide +kernel
theorem dX10_word_14 : decode cX10_word 14 = .ok (.lconst 0, 1) := by decide +kernel
theorem dX10_word_15 : decode cX10_word 15 = .ok (.iconst 1, 1) := by decide +kernel
theorem dX10_word_16 : decode cX10_word 16 = .ok (.iconst 2, 1) := by decide +kernel
theorem dX10_word_17 : decode cX10_word 17 = .ok (.iload_n 1, 1) := by decide +kernel
theorem dX10_word_18 : decode cX10_word 18 = .ok (.imul, 1) := by decide +kernel
theorem dX10_word_19 : decode cX10_word 19 = .ok (.ishl, 1) := by decide +kernel
theorem dX10_word_20 : decode cX10_word 20 = .ok (.iconst 1, 1) := by decide +kernel
theorem dX10_word_21 : decode cX10_word 21 = .ok (.isub, 1) := by decide +kernel
theorem dX10_word_22 : decode cX10_word 22 = .ok (.i2l, 1) := by decide +kernel
theorem dX10_word_23 : decode cX10_word 23 = .ok (.invokestatic 138, 3) := by decide +kernel
theorem dX10_word_26 : decode cX10_word 26 = .ok (.ifCond .ne 5, 3) := by decide +kernel
theorem dX10_word_29 : decode cX10_word 29 = .ok (.iconst (-1), 1) := by decide +kernel
theorem dX10_word_30 : decode cX10_word 30 = .ok (.ireturn, 1) := by decide +kernel
theorem dX10_word_31 : decode cX10_word 31 = .ok (.iconst 0, 1) := by decide +kernel
theorem dX10_word_32 : decode cX10_word 32 = .ok (.istore_n 3, 1) := by decide +kernel
theorem dX10_word_33 : decode cX10_word 33 = .ok (.iload_n 3, 1) := by decide +kernel
theorem dX10_word_34 : decode cX10_word 34 = .ok (.aload_n 0, 1) := by decide +kernel
theorem dX10_word_35 : decode cX10_word 35 = .ok (.getfield 279, 3) := by decide +kernel
theorem dX10_word_38 : decode cX10_word 38 = .ok (.if_icmp .ge 31, 3) := by decide +kernel
theorem dX10_word_41 : decode cX10_word 41 = .ok (.aload_n 0, 1) := by decide +kernel
theorem dX10_word_42 : decode cX10_word 42 = .ok (.getfield 81, 3) := by decide +kernel
theorem dX10_word_45 : decode cX10_word 45 = .ok (.iload_n 3, 1) := by decide +kernel
theorem dX10_word_46 : decode cX10_word 46 = .ok (.iaload, 1) := by decide +kernel
theorem dX10_word_47 : decode cX10_word 47 = .ok (.iload_n 1, 1) := by decide +kernel
theorem dX10_word_48 : decode cX10_word 48 = .ok (.if_icmp .ne 15, 3) := by decide +kernel
theorem dX10_word_51 : decode cX10_word 51 = .ok (.aload_n 0, 1) := by decide +kernel
theorem dX10_word_52 : decode cX10_word 52 = .ok (.getfield 84, 3) := by decide +kernel
theorem dX10_word_55 : decode cX10_word 55 = .ok (.iload_n 3, 1) := by decide +kernel
theorem dX10_word_56 : decode cX10_word 56 = .ok (.iaload, 1) := by decide +kernel
theorem dX10_word_57 : decode cX10_word 57 = .ok (.iload_n 2, 1) := by decide +kernel
theorem dX10_word_58 : decode cX10_word 58 = .ok (.if_icmp .ne 5, 3) := by decide +kernel
theorem dX10_word_61 : decode cX10_word 61 = .ok (.iconst (-1), 1) := by decide +kernel
theorem dX10_word_62 : decode cX10_word 62 = .ok (.ireturn, 1) := by decide +kernel
theorem dX10_word_63 : decode cX10_word 63 = .ok (.iinc 3 1, 3) := by decide +kernel
theorem dX10_word_66 : decode cX10_word 66 = .ok (.goto (-33), 3) := by decide +kernel
theorem dX10_word_69 : decode cX10_word 69 = .ok (.aload_n 0, 1) := by decide +kernel
theorem dX10_word_70 : decode cX10_word 70 = .ok (.getfield 279, 3) := by decide +kernel
theorem dX10_word_73 : decode cX10_word 73 = .ok (.bipush 12, 2) := by decide +kernel
theorem dX10_word_75 : decode cX10_word 75 = .ok (.if_icmp .ne 6, 3) := by decide +kernel
theorem dX10_word_78 : decode cX10_word 78 = .ok (.bipush (-3), 2) := by decide +kernel
theorem dX10_word_80 : decode cX10_word 80 = .ok (.ireturn, 1) := by decide +kernel
theorem dX10_word_81 : decode cX10_word 81 = .ok (.aload_n 0, 1) := by decide +kernel
theorem dX10_word_82 : decode cX10_word 82 = .ok (.getfield 81, 3) := by decide +kernel
theorem dX10_word_85 : decode cX10_word 85 = .ok (.aload_n 0, 1) := by decide +kernel
theorem dX10_word_86 : decode cX10_word 86 = .ok (.getfield 279, 3) := by decide +kernel
theorem dX10_word_89 : decode cX10_word 89 = .ok (.iload_n 1, 1) := by decide +kernel
theorem dX10_word_90 : decode cX10_word 90 = .ok (.iastore, 1) := by decide +kernel
theorem dX10_word_91 : decode cX10_word 91 = .ok (.aload_n 0, 1) := by decide +kernel
theorem dX10_word_92 : decode cX10_word 92 = .ok (.getfield 84, 3) := by decide +kernel
theorem dX10_word_95 : decode cX10_word 95 = .ok (.aload_n 0, 1) := by decide +kernel
theorem dX10_word_96 : decode cX10_word 96 = .ok (.getfield 279, 3) := by decide +kernel
theorem dX10_word_99 : decode cX10_word 99 = .ok (.iload_n 2, 1) := by decide +kernel
theorem dX10_word_100 : decode cX10_word 100 = .ok (.iastore, 1) := by decide +kernel
theorem dX10_word_101 : decode cX10_word 101 = .ok (.aload_n 0, 1) := by decide +kernel
theorem dX10_word_102 : decode cX10_word 102 = .ok (.dup, 1) := by decide +kernel
theorem dX10_word_103 : decode cX10_word 103 = .ok (.getfield 279, 3) := by decide +kernel
theorem dX10_word_106 : decode cX10_word 106 = .ok (.iconst 1, 1) := by decide +kernel
theorem dX10_word_107 : decode cX10_word 107 = .ok (.iadd, 1) := by decide +kernel
theorem dX10_word_108 : decode cX10_word 108 = .ok (.putfield 279, 3) := by decide +kernel
theorem dX10_word_111 : decode cX10_word 111 = .ok (.aload_n 0, 1) := by decide +kernel
theorem dX10_word_112 : decode cX10_word 112 = .ok (.getfield 279, 3) := by decide +kernel
theorem dX10_word_115 : decode cX10_word 115 = .ok (.iconst 1, 1) := by decide +kernel
theorem dX10_word_116 : decode cX10_word 116 = .ok (.isub, 1) := by decide +kernel
theorem dX10_word_117 : decode cX10_word 117 = .ok (.ireturn, 1) := by decide +kernel
theorem dX10_findTable_0 : decode cX10_findTable 0 = .ok (.aload_n 0, 1) := by decide +kernel
theorem dX10_findTable_1 : decode cX10_findTable 1 = .ok (.invokevirtual 181, 3) := by decide +kernel
theorem dX10_findTable_4 : decode cX10_findTable 4 = .ok (.aload_n 0, 1) := by decide +kernel
theorem dX10_findTable_5 : decode cX10_findTable 5 = .ok (.iconst 0, 1) := by decide +kernel
theorem dX10_findTable_6 : decode cX10_findTable 6 = .ok (.putfield 282, 3) := by decide +kernel
theorem dX10_findTable_9 : decode cX10_findTable 9 = .ok (.iconst 0, 1) := by decide +kernel
theorem dX10_findTable_10 : decode cX10_findTable 10 = .ok (.istore_n 1, 1) := by decide +kernel
theorem dX10_findTable_11 : decode cX10_findTable 11 = .ok (.iload_n 1, 1) := by decide +kernel
theorem dX10_findTable_12 : decode cX10_findTable 12 = .ok (.bipush 24, 2) := by decide +kernel
theorem dX10_findTable_14 : decode cX10_findTable 14 = .ok (.if_icmp .ge 17, 3) := by decide +kernel
theorem dX10_findTable_17 : decode cX10_findTable 17 = .ok (.aload_n 0, 1) := by decide +kernel
theorem dX10_findTable_18 : decode cX10_findTable 18 = .ok (.getfield 90, 3) := by decide +kernel
theorem dX10_findTable_21 : decode cX10_findTable 21 = .ok (.iload_n 1, 1) := by decide +kernel
theorem dX10_findTable_22 : decode cX10_findTable 22 = .ok (.bipush (-4), 2) := by decide +kernel
theorem dX10_findTable_24 : decode cX10_findTable 24 = .ok (.iastore, 1) := by decide +kernel
theorem dX10_findTable_25 : decode cX10_findTable 25 = .ok (.iinc 1 1, 3) := by decide +kernel
theorem dX10_findTable_28 : decode cX10_findTable 28 = .ok (.goto (-17), 3) := by decide +kernel
theorem dX10_findTable_31 : decode cX10_findTable 31 = .ok (.iconst 1, 1) := by decide +kernel
theorem dX10_findTable_32 : decode cX10_findTable 32 = .ok (.istore_n 1, 1) := by decide +kernel
theorem dX10_findTable_33 : decode cX10_findTable 33 = .ok (.iload_n 1, 1) := by decide +kernel
theorem dX10_findTable_34 : decode cX10_findTable 34 = .ok (.ifCond .eq 146, 3) := by decide +kernel
theorem dX10_findTable_37 : decode cX10_findTable 37 = .ok (.aload_n 0, 1) := by decide +kernel
theorem dX10_findTable_38 : decode cX10_findTable 38 = .ok (.getfield 282, 3) := by decide +kernel
theorem dX10_findTable_41 : decode cX10_findTable 41 = .ok (.bipush 6, 2) := by decide +kernel
theorem dX10_findTable_43 : decode cX10_findTable 43 = .ok (.if_icmp .ge 137, 3) := by decide +kernel
theorem dX10_findTable_46 : decode cX10_findTable 46 = .ok (.bipush (-4), 2) := by decide +kernel
theorem dX10_findTable_48 : decode cX10_findTable 48 = .ok (.istore_n 2, 1) := by decide +kernel
theorem dX10_findTable_49 : decode cX10_findTable 49 = .ok (.iconst 0, 1) := by decide +kernel
theorem dX10_findTable_50 : decode cX10_findTable 50 = .ok (.istore_n 3, 1) := by decide +kernel
theorem dX10_findTable_51 : decode cX10_findTable 51 = .ok (.iload_n 3, 1) := by decide +kernel
theorem dX10_findTable_52 : decode cX10_findTable 52 = .ok (.aload_n 0, 1) := by decide +kernel
theorem dX10_findTable_53 : decode cX10_findTable 53 = .ok (.getfield 135, 3) := by decide +kernel
theorem dX10_findTable_56 : decode cX10_findTable 56 = .ok (.if_icmp .ge 75, 3) := by decide +kernel
theorem dX10_findTable_59 : decode cX10_findTable 59 = .ok (.aload_n 0, 1) := by decide +kernel
theorem dX10_findTable_60 : decode cX10_findTable 60 = .ok (.getfield 17, 3) := by decide +kernel
theorem dX10_findTable_63 : decode cX10_findTable 63 = .ok (.iload_n 3, 1) := by decide +kernel
theorem dX10_findTable_64 : decode cX10_findTable 64 = .ok (.iaload, 1) := by decide +kernel
theorem dX10_findTable_65 : decode cX10_findTable 65 = .ok (.iload_n 3, 1) := by decide +kernel
theorem dX10_findTable_66 : decode cX10_findTable 66 = .ok (.if_icmp .ne 26, 3) := by decide +kernel
theorem dX10_findTable_69 : decode cX10_findTable 69 = .ok (.aload_n 0, 1) := by decide +kernel
theorem dX10_findTable_70 : decode cX10_findTable 70 = .ok (.getfield 90, 3) := by decide +kernel
theorem dX10_findTable_73 : decode cX10_findTable 73 = .ok (.iload_n 3, 1) := by decide +kernel
theorem dX10_findTable_74 : decode cX10_findTable 74 = .ok (.iaload, 1) := by decide +kernel
theorem dX10_findTable_75 : decode cX10_findTable 75 = .ok (.bipush (-4), 2) := by decide +kernel
theorem dX10_findTable_77 : decode cX10_findTable 77 = .ok (.if_icmp .ne 15, 3) := by decide +kernel
theorem dX10_findTable_80 : decode cX10_findTable 80 = .ok (.aload_n 0, 1) := by decide +kernel
theorem dX10_findTable_81 : decode cX10_findTable 81 = .ok (.iload_n 3, 1) := by decide +kernel
theorem dX10_findTable_82 : decode cX10_findTable 82 = .ok (.invokevirtual 187, 3) := by decide +kernel
theorem dX10_findTable_85 : decode cX10_findTable 85 = .ok (.ifCond .le 7, 3) := by decide +kernel
theorem dX10_findTable_88 : decode cX10_findTable 88 = .ok (.iconst 1, 1) := by decide +kernel
theorem dX10_findTable_89 : decode cX10_findTable 89 = .ok (.goto 4, 3) := by decide +kernel
theorem dX10_findTable_92 : decode cX10_findTable 92 = .ok (.iconst 0, 1) := by decide +kernel
theorem dX10_findTable_93 : decode cX10_findTable 93 = .ok (.istore 4, 2) := by decide +kernel
theorem dX10_findTable_95 : decode cX10_findTable 95 = .ok (.iload 4, 2) := by decide +kernel
theorem dX10_findTable_97 : decode cX10_findTable 97 = .ok (.ifCond .eq 26, 3) := by decide +kernel
theorem dX10_findTable_100 : decode cX10_findTable 100 = .ok (.iload_n 2, 1) := by decide +kernel
theorem dX10_findTable_101 : decode cX10_findTable 101 = .ok (.bipush (-4), 2) := by decide +kernel
theorem dX10_findTable_103 : decode cX10_findTable 103 = .ok (.if_icmp .eq 16, 3) := by decide +kernel
theorem dX10_findTable_106 : decode cX10_findTable 106 = .ok (.aload_n 0, 1) := by decide +kernel
theorem dX10_findTable_107 : decode cX10_findTable 107 = .ok (.iload_n 3, 1) := by decide +kernel
theorem dX10_findTable_108 : decode cX10_findTable 108 = .ok (.invokevirtual 187, 3) := by decide +kernel
theorem dX10_findTable_111 : decode cX10_findTable 111 = .ok (.aload_n 0, 1) := by decide +kernel
theorem dX10_findTable_112 : decode cX10_findTable 112 = .ok (.iload_n 2, 1) := by decide +kernel
theorem dX10_findTable_113 : decode cX10_findTable 113 = .ok (.invokevirtual 187, 3) := by decide +kernel
theorem dX10_findTable_116 : decode cX10_findTable 116 = .ok (.if_icmp .le 7, 3) := by decide +kernel
theorem dX10_findTable_119 : decode cX10_findTable 119 = .ok (.iload_n 3, 1) := by decide +kernel
theorem dX10_findTable_120 : decode cX10_findTable 120 = .ok (.goto 4, 3) := by decide +kernel
theorem dX10_findTable_123 : decode cX10_findTable 123 = .ok (.iload_n 2, 1) := by decide +kernel
theorem dX10_findTable_124 : decode cX10_findTable 124 = .ok (.istore_n 2, 1) := by decide +kernel
theorem dX10_findTable_125 : decode cX10_findTable 125 = .ok (.iinc 3 1, 3) := by decide +kernel
theorem dX10_findTable_128 : decode cX10_findTable 128 = .ok (.goto (-77), 3) := by decide +kernel
theorem dX10_findTable_131 : decode cX10_findTable 131 = .ok (.iload_n 2, 1) := by decide +kernel
theorem dX10_findTable_132 : decode cX10_findTable 132 = .ok (.bipush (-4), 2) := by decide +kernel
theorem dX10_findTable_134 : decode cX10_findTable 134 = .ok (.if_icmp .eq 7, 3) := by decide +kernel
theorem dX10_findTable_137 : decode cX10_findTable 137 = .ok (.iconst 1, 1) := by decide +kernel
theorem dX10_findTable_138 : decode cX10_findTable 138 = .ok (.goto 4, 3) := by decide +kernel
theorem dX10_findTable_141 : decode cX10_findTable 141 = .ok (.iconst 0, 1) := by decide +kernel
theorem dX10_findTable_142 : decode cX10_findTable 142 = .ok (.istore_n 1, 1) := by decide +kernel
theorem dX10_findTable_143 : decode cX10_findTable 143 = .ok (.iload_n 1, 1) := by decide +kernel
theorem dX10_findTable_144 : decode cX10_findTable 144 = .ok (.ifCond .eq 33, 3) := by decide +kernel
theorem dX10_findTable_147 : decode cX10_findTable 147 = .ok (.aload_n 0, 1) := by decide +kernel
theorem dX10_findTable_148 : decode cX10_findTable 148 = .ok (.getfield 87, 3) := by decide +kernel
theorem dX10_findTable_151 : decode cX10_findTable 151 = .ok (.aload_n 0, 1) := by decide +kernel
theorem dX10_findTable_152 : decode cX10_findTable 152 = .ok (.getfield 282, 3) := by decide +kernel
theorem dX10_findTable_155 : decode cX10_findTable 155 = .ok (.iload_n 2, 1) := by decide +kernel
theorem dX10_findTable_156 : decode cX10_findTable 156 = .ok (.iastore, 1) := by decide +kernel
theorem dX10_findTable_157 : decode cX10_findTable 157 = .ok (.aload_n 0, 1) := by decide +kernel
theorem dX10_findTable_158 : decode cX10_findTable 158 = .ok (.getfield 90, 3) := by decide +kernel
theorem dX10_findTable_161 : decode cX10_findTable 161 = .ok (.iload_n 2, 1) := by decide +kernel
theorem dX10_findTable_162 : decode cX10_findTable 162 = .ok (.aload_n 0, 1) := by decide +kernel
theorem dX10_findTable_163 : decode cX10_findTable 163 = .ok (.getfield 282, 3) := by decide +kernel
theorem dX10_findTable_166 : decode cX10_findTable 166 = .ok (.iastore, 1) := by decide +kernel
theorem dX10_findTable_167 : decode cX10_findTable 167 = .ok (.aload_n 0, 1) := by decide +kernel
theorem dX10_findTable_168 : decode cX10_findTable 168 = .ok (.dup, 1) := by decide +kernel
theorem dX10_findTable_169 : decode cX10_findTable 169 = .ok (.getfield 282, 3) := by decide +kernel
theorem dX10_findTable_172 : decode cX10_findTable 172 = .ok (.iconst 1, 1) := by decide +kernel
theorem dX10_findTable_173 : decode cX10_findTable 173 = .ok (.iadd, 1) := by decide +kernel
theorem dX10_findTable_174 : decode cX10_findTable 174 = .ok (.putfield 282, 3) := by decide +kernel
theorem dX10_findTable_177 : decode cX10_findTable 177 = .ok (.goto (-144), 3) := by decide +kernel
theorem dX10_findTable_180 : decode cX10_findTable 180 = .ok (.return_, 1) := by decide +kernel
theorem dX10_tabled_0 : decode cX10_tabled 0 = .ok (.iload_n 1, 1) := by decide +kernel
theorem dX10_tabled_1 : decode cX10_tabled 1 = .ok (.i2l, 1) := by decide +kernel
theorem dX10_tabled_2 : decode cX10_tabled 2 = .ok (.lconst 0, 1) := by decide +kernel
theorem dX10_tabled_3 : decode cX10_tabled 3 = .ok (.ldc2_w 177, 3) := by decide +kernel
theorem dX10_tabled_6 : decode cX10_tabled 6 = .ok (.invokestatic 138, 3) := by decide +kernel
theorem dX10_tabled_9 : decode cX10_tabled 9 = .ok (.ifCond .ne 5, 3) := by decide +kernel
theorem dX10_tabled_12 : decode cX10_tabled 12 = .ok (.iconst (-1), 1) := by decide +kernel
theorem dX10_tabled_13 : decode cX10_tabled 13 = .ok (.ireturn, 1) := by decide +kernel
theorem dX10_tabled_14 : decode cX10_tabled 14 = .ok (.aload_n 0, 1) := by decide +kernel
theorem dX10_tabled_15 : decode cX10_tabled 15 = .ok (.invokevirtual 285, 3) := by decide +kernel
theorem dX10_tabled_18 : decode cX10_tabled 18 = .ok (.iload_n 1, 1) := by decide +kernel
theorem dX10_tabled_19 : decode cX10_tabled 19 = .ok (.aload_n 0, 1) := by decide +kernel
theorem dX10_tabled_20 : decode cX10_tabled 20 = .ok (.getfield 282, 3) := by decide +kernel
theorem dX10_tabled_23 : decode cX10_tabled 23 = .ok (.if_icmp .ge 12, 3) := by decide +kernel
theorem dX10_tabled_26 : decode cX10_tabled 26 = .ok (.aload_n 0, 1) := by decide +kernel
theorem dX10_tabled_27 : decode cX10_tabled 27 = .ok (.getfield 87, 3) := by decide +kernel
theorem dX10_tabled_30 : decode cX10_tabled 30 = .ok (.iload_n 1, 1) := by decide +kernel
theorem dX10_tabled_31 : decode cX10_tabled 31 = .ok (.iaload, 1) := by decide +kernel
theorem dX10_tabled_32 : decode cX10_tabled 32 = .ok (.goto 5, 3) := by decide +kernel
theorem dX10_tabled_35 : decode cX10_tabled 35 = .ok (.bipush (-4), 2) := by decide +kernel
theorem dX10_tabled_37 : decode cX10_tabled 37 = .ok (.ireturn, 1) := by decide +kernel
theorem dX10_findTongue_0 : decode cX10_findTongue 0 = .ok (.iconst 0, 1) := by decide +kernel
theorem dX10_findTongue_1 : decode cX10_findTongue 1 = .ok (.istore_n 1, 1) := by decide +kernel
theorem dX10_findTongue_2 : decode cX10_findTongue 2 = .ok (.iload_n 1, 1) := by decide +kernel
theorem dX10_findTongue_3 : decode cX10_findTongue 3 = .ok (.sipush 28672, 3) := by decide +kernel
theorem dX10_findTongue_6 : decode cX10_findTongue 6 = .ok (.if_icmp .ge 16, 3) := by decide +kernel
theorem dX10_findTongue_9 : decode cX10_findTongue 9 = .ok (.aload_n 0, 1) := by decide +kernel
theorem dX10_findTongue_10 : decode cX10_findTongue 10 = .ok (.getfield 99, 3) := by decide +kernel
theorem dX10_findTongue_13 : decode cX10_findTongue 13 = .ok (.iload_n 1, 1) := by decide +kernel
theorem dX10_findTongue_14 : decode cX10_findTongue 14 = .ok (.iconst 0, 1) := by decide +kernel
theorem dX10_findTongue_15 : decode cX10_findTongue 15 = .ok (.bastore, 1) := by decide +kernel
theorem dX10_findTongue_16 : decode cX10_findTongue 16 = .ok (.iinc 1 1, 3) := by decide +kernel
theorem dX10_findTongue_19 : decode cX10_findTongue 19 = .ok (.goto (-17), 3) := by decide +kernel
theorem dX10_findTongue_22 : decode cX10_findTongue 22 = .ok (.iconst 0, 1) := by decide +kernel
theorem dX10_findTongue_23 : decode cX10_findTongue 23 = .ok (.istore_n 1, 1) := by decide +kernel
theorem dX10_findTongue_24 : decode cX10_findTongue 24 = .ok (.iload_n 1, 1) := by decide +kernel
theorem dX10_findTongue_25 : decode cX10_findTongue 25 = .ok (.aload_n 0, 1) := by decide +kernel
theorem dX10_findTongue_26 : decode cX10_findTongue 26 = .ok (.getfield 279, 3) := by decide +kernel
theorem dX10_findTongue_29 : decode cX10_findTongue 29 = .ok (.if_icmp .ge 32, 3) := by decide +kernel
theorem dX10_findTongue_32 : decode cX10_findTongue 32 = .ok (.aload_n 0, 1) := by decide +kernel
theorem dX10_findTongue_33 : decode cX10_findTongue 33 = .ok (.getfield 99, 3) := by decide +kernel
theorem dX10_findTongue_36 : decode cX10_findTongue 36 = .ok (.sipush 4096, 3) := by decide +kernel
theorem dX10_findTongue_39 : decode cX10_findTongue 39 = .ok (.aload_n 0, 1) := by decide +kernel
theorem dX10_findTongue_40 : decode cX10_findTongue 40 = .ok (.getfield 81, 3) := by decide +kernel
theorem dX10_findTongue_43 : decode cX10_findTongue 43 = .ok (.iload_n 1, 1) := by decide +kernel
theorem dX10_findTongue_44 : decode cX10_findTongue 44 = .ok (.iaload, 1) := by decide +kernel
theorem dX10_findTongue_45 : decode cX10_findTongue 45 = .ok (.imul, 1) := by decide +kernel
theorem dX10_findTongue_46 : decode cX10_findTongue 46 = .ok (.aload_n 0, 1) := by decide +kernel
theorem dX10_findTongue_47 : decode cX10_findTongue 47 = .ok (.getfield 84, 3) := by decide +kernel
theorem dX10_findTongue_50 : decode cX10_findTongue 50 = .ok (.iload_n 1, 1) := by decide +kernel
theorem dX10_findTongue_51 : decode cX10_findTongue 51 = .ok (.iaload, 1) := by decide +kernel
theorem dX10_findTongue_52 : decode cX10_findTongue 52 = .ok (.iadd, 1) := by decide +kernel
theorem dX10_findTongue_53 : decode cX10_findTongue 53 = .ok (.iconst 1, 1) := by decide +kernel
theorem dX10_findTongue_54 : decode cX10_findTongue 54 = .ok (.bastore, 1) := by decide +kernel
theorem dX10_findTongue_55 : decode cX10_findTongue 55 = .ok (.iinc 1 1, 3) := by decide +kernel
theorem dX10_findTongue_58 : decode cX10_findTongue 58 = .ok (.goto (-34), 3) := by decide +kernel
theorem dX10_findTongue_61 : decode cX10_findTongue 61 = .ok (.return_, 1) := by decide +kernel
theorem dX10_findReadable_0 : decode cX10_findReadable 0 = .ok (.aload_n 0, 1) := by decide +kernel
theorem dX10_findReadable_1 : decode cX10_findReadable 1 = .ok (.iconst 0, 1) := by decide +kernel
theorem dX10_findReadable_2 : decode cX10_findReadable 2 = .ok (.putfield 288, 3) := by decide +kernel
theorem dX10_findReadable_5 : decode cX10_findReadable 5 = .ok (.iconst 0, 1) := by decide +kernel
theorem dX10_findReadable_6 : decode cX10_findReadable 6 = .ok (.istore_n 2, 1) := by decide +kernel
theorem dX10_findReadable_7 : decode cX10_findReadable 7 = .ok (.iload_n 2, 1) := by decide +kernel
theorem dX10_findReadable_8 : decode cX10_findReadable 8 = .ok (.aload_n 0, 1) := by decide +kernel
theorem dX10_findReadable_9 : decode cX10_findReadable 9 = .ok (.getfield 167, 3) := by decide +kernel
theorem dX10_findReadable_12 : decode cX10_findReadable 12 = .ok (.if_icmp .ge 161, 3) := by decide +kernel
theorem dX10_findReadable_15 : decode cX10_findReadable 15 = .ok (.aload_n 0, 1) := by decide +kernel
theorem dX10_findReadable_16 : decode cX10_findReadable 16 = .ok (.getfield 35, 3) := by decide +kernel
theorem dX10_findReadable_19 : decode cX10_findReadable 19 = .ok (.iload_n 2, 1) := by decide +kernel
theorem dX10_findReadable_20 : decode cX10_findReadable 20 = .ok (.baload, 1) := by decide +kernel
theorem dX10_findReadable_21 : decode cX10_findReadable 21 = .ok (.ifCond .eq 32, 3) := by decide +kernel
theorem dX10_findReadable_24 : decode cX10_findReadable 24 = .ok (.aload_n 0, 1) := by decide +kernel
theorem dX10_findReadable_25 : decode cX10_findReadable 25 = .ok (.getfield 32, 3) := by decide +kernel
theorem dX10_findReadable_28 : decode cX10_findReadable 28 = .ok (.iload_n 2, 1) := by decide +kernel
theorem dX10_findReadable_29 : decode cX10_findReadable 29 = .ok (.iaload, 1) := by decide +kernel
theorem dX10_findReadable_30 : decode cX10_findReadable 30 = .ok (.bipush 6, 2) := by decide +kernel
theorem dX10_findReadable_32 : decode cX10_findReadable 32 = .ok (.if_icmp .gt 21, 3) := by decide +kernel
theorem dX10_findReadable_35 : decode cX10_findReadable 35 = .ok (.iload_n 1, 1) := by decide +kernel
theorem dX10_findReadable_36 : decode cX10_findReadable 36 = .ok (.aload_n 0, 1) := by decide +kernel
theorem dX10_findReadable_37 : decode cX10_findReadable 37 = .ok (.getfield 26, 3) := by decide +kernel
theorem dX10_findReadable_40 : decode cX10_findReadable 40 = .ok (.iload_n 2, 1) := by decide +kernel
theorem dX10_findReadable_41 : decode cX10_findReadable 41 = .ok (.iaload, 1) := by decide +kernel
theorem dX10_findReadable_42 : decode cX10_findReadable 42 = .ok (.ishr, 1) := by decide +kernel
theorem dX10_findReadable_43 : decode cX10_findReadable 43 = .ok (.iconst 1, 1) := by decide +kernel
theorem dX10_findReadable_44 : decode cX10_findReadable 44 = .ok (.iand, 1) := by decide +kernel
theorem dX10_findReadable_45 : decode cX10_findReadable 45 = .ok (.iconst 1, 1) := by decide +kernel
theorem dX10_findReadable_46 : decode cX10_findReadable 46 = .ok (.if_icmp .ne 7, 3) := by decide +kernel
theorem dX10_findReadable_49 : decode cX10_findReadable 49 = .ok (.iconst 1, 1) := by decide +kernel
theorem dX10_findReadable_50 : decode cX10_findReadable 50 = .ok (.goto 4, 3) := by decide +kernel
theorem dX10_findReadable_53 : decode cX10_findReadable 53 = .ok (.iconst 0, 1) := by decide +kernel
theorem dX10_findReadable_54 : decode cX10_findReadable 54 = .ok (.istore_n 3, 1) := by decide +kernel
theorem dX10_findReadable_55 : decode cX10_findReadable 55 = .ok (.iconst 0, 1) := by decide +kernel
theorem dX10_findReadable_56 : decode cX10_findReadable 56 = .ok (.istore 4, 2) := by decide +kernel
theorem dX10_findReadable_58 : decode cX10_findReadable 58 = .ok (.iconst 0, 1) := by decide +kernel
theorem dX10_findReadable_59 : decode cX10_findReadable 59 = .ok (.istore 5, 2) := by decide +kernel
theorem dX10_findReadable_61 : decode cX10_findReadable 61 = .ok (.iload 5, 2) := by decide +kernel
theorem dX10_findReadable_63 : decode cX10_findReadable 63 = .ok (.aload_n 0, 1) := by decide +kernel
theorem dX10_findReadable_64 : decode cX10_findReadable 64 = .ok (.getfield 32, 3) := by decide +kernel
theorem dX10_findReadable_67 : decode cX10_findReadable 67 = .ok (.iload_n 2, 1) := by decide +kernel
theorem dX10_findReadable_68 : decode cX10_findReadable 68 = .ok (.iaload, 1) := by decide +kernel
theorem dX10_findReadable_69 : decode cX10_findReadable 69 = .ok (.if_icmp .ge 58, 3) := by decide +kernel
theorem dX10_findReadable_72 : decode cX10_findReadable 72 = .ok (.iload_n 3, 1) := by decide +kernel
theorem dX10_findReadable_73 : decode cX10_findReadable 73 = .ok (.ifCond .eq 54, 3) := by decide +kernel
theorem dX10_findReadable_76 : decode cX10_findReadable 76 = .ok (.aload_n 0, 1) := by decide +kernel
theorem dX10_findReadable_77 : decode cX10_findReadable 77 = .ok (.getfield 90, 3) := by decide +kernel
theorem dX10_findReadable_80 : decode cX10_findReadable 80 = .ok (.aload_n 0, 1) := by decide +kernel
theorem dX10_findReadable_81 : decode cX10_findReadable 81 = .ok (.iload_n 2, 1) := by decide +kernel
theorem dX10_findReadable_82 : decode cX10_findReadable 82 = .ok (.iload 5, 2) := by decide +kernel
theorem dX10_findReadable_84 : decode cX10_findReadable 84 = .ok (.invokevirtual 200, 3) := by decide +kernel
theorem dX10_findReadable_87 : decode cX10_findReadable 87 = .ok (.iaload, 1) := by decide +kernel
theorem dX10_findReadable_88 : decode cX10_findReadable 88 = .ok (.istore 6, 2) := by decide +kernel
theorem dX10_findReadable_90 : decode cX10_findReadable 90 = .ok (.iload 6, 2) := by decide +kernel
theorem dX10_findReadable_92 : decode cX10_findReadable 92 = .ok (.bipush (-4), 2) := by decide +kernel
theorem dX10_findReadable_94 : decode cX10_findReadable 94 = .ok (.if_icmp .eq 7, 3) := by decide +kernel
theorem dX10_findReadable_97 : decode cX10_findReadable 97 = .ok (.iconst 1, 1) := by decide +kernel
theorem dX10_findReadable_98 : decode cX10_findReadable 98 = .ok (.goto 4, 3) := by decide +kernel
theorem dX10_findReadable_101 : decode cX10_findReadable 101 = .ok (.iconst 0, 1) := by decide +kernel
theorem dX10_findReadable_102 : decode cX10_findReadable 102 = .ok (.istore_n 3, 1) := by decide +kernel
theorem dX10_findReadable_103 : decode cX10_findReadable 103 = .ok (.bipush 8, 2) := by decide +kernel
theorem dX10_findReadable_105 : decode cX10_findReadable 105 = .ok (.iload 4, 2) := by decide +kernel
theorem dX10_findReadable_107 : decode cX10_findReadable 107 = .ok (.imul, 1) := by decide +kernel
theorem dX10_findReadable_108 : decode cX10_findReadable 108 = .ok (.iload_n 3, 1) := by decide +kernel
theorem dX10_findReadable_109 : decode cX10_findReadable 109 = .ok (.ifCond .eq 8, 3) := by decide +kernel
theorem dX10_findReadable_112 : decode cX10_findReadable 112 = .ok (.iload 6, 2) := by decide +kernel
theorem dX10_findReadable_114 : decode cX10_findReadable 114 = .ok (.goto 4, 3) := by decide +kernel
theorem dX10_findReadable_117 : decode cX10_findReadable 117 = .ok (.iconst 0, 1) := by decide +kernel
theorem dX10_findReadable_118 : decode cX10_findReadable 118 = .ok (.iadd, 1) := by decide +kernel
theorem dX10_findReadable_119 : decode cX10_findReadable 119 = .ok (.istore 4, 2) := by decide +kernel
theorem dX10_findReadable_121 : decode cX10_findReadable 121 = .ok (.iinc 5 1, 3) := by decide +kernel
theorem dX10_findReadable_124 : decode cX10_findReadable 124 = .ok (.goto (-63), 3) := by decide +kernel
theorem dX10_findReadable_127 : decode cX10_findReadable 127 = .ok (.iload_n 3, 1) := by decide +kernel
theorem dX10_findReadable_128 : decode cX10_findReadable 128 = .ok (.ifCond .eq 39, 3) := by decide +kernel
theorem dX10_findReadable_131 : decode cX10_findReadable 131 = .ok (.aload_n 0, 1) := by decide +kernel
theorem dX10_findReadable_132 : decode cX10_findReadable 132 = .ok (.getfield 93, 3) := by decide +kernel
theorem dX10_findReadable_135 : decode cX10_findReadable 135 = .ok (.aload_n 0, 1) := by decide +kernel
theorem dX10_findReadable_136 : decode cX10_findReadable 136 = .ok (.getfield 288, 3) := by decide +kernel
theorem dX10_findReadable_139 : decode cX10_findReadable 139 = .ok (.aload_n 0, 1) := by decide +kernel
theorem dX10_findReadable_140 : decode cX10_findReadable 140 = .ok (.getfield 32, 3) := by decide +kernel
theorem dX10_findReadable_143 : decode cX10_findReadable 143 = .ok (.iload_n 2, 1) := by decide +kernel
theorem dX10_findReadable_144 : decode cX10_findReadable 144 = .ok (.iaload, 1) := by decide +kernel
theorem dX10_findReadable_145 : decode cX10_findReadable 145 = .ok (.iastore, 1) := by decide +kernel
theorem dX10_findReadable_146 : decode cX10_findReadable 146 = .ok (.aload_n 0, 1) := by decide +kernel
theorem dX10_findReadable_147 : decode cX10_findReadable 147 = .ok (.getfield 96, 3) := by decide +kernel
theorem dX10_findReadable_150 : decode cX10_findReadable 150 = .ok (.aload_n 0, 1) := by decide +kernel
theorem dX10_findReadable_151 : decode cX10_findReadable 151 = .ok (.getfield 288, 3) := by decide +kernel
theorem dX10_findReadable_154 : decode cX10_findReadable 154 = .ok (.iload 4, 2) := by decide +kernel
theorem dX10_findReadable_156 : decode cX10_findReadable 156 = .ok (.iastore, 1) := by decide +kernel
theorem dX10_findReadable_157 : decode cX10_findReadable 157 = .ok (.aload_n 0, 1) := by decide +kernel
theorem dX10_findReadable_158 : decode cX10_findReadable 158 = .ok (.dup, 1) := by decide +kernel
theorem dX10_findReadable_159 : decode cX10_findReadable 159 = .ok (.getfield 288, 3) := by decide +kernel
theorem dX10_findReadable_162 : decode cX10_findReadable 162 = .ok (.iconst 1, 1) := by decide +kernel
theorem dX10_findReadable_163 : decode cX10_findReadable 163 = .ok (.iadd, 1) := by decide +kernel
theorem dX10_findReadable_164 : decode cX10_findReadable 164 = .ok (.putfield 288, 3) := by decide +kernel
theorem dX10_findReadable_167 : decode cX10_findReadable 167 = .ok (.iinc 2 1, 3) := by decide +kernel
theorem dX10_findReadable_170 : decode cX10_findReadable 170 = .ok (.goto (-163), 3) := by decide +kernel
theorem dX10_findReadable_173 : decode cX10_findReadable 173 = .ok (.return_, 1) := by decide +kernel
theorem dX10_readBy_0 : decode cX10_readBy 0 = .ok (.iconst 0, 1) := by decide +kernel
theorem dX10_readBy_1 : decode cX10_readBy 1 = .ok (.istore_n 2, 1) := by decide +kernel
theorem dX10_readBy_2 : decode cX10_readBy 2 = .ok (.iconst 0, 1) := by decide +kernel
theorem dX10_readBy_3 : decode cX10_readBy 3 = .ok (.istore_n 3, 1) := by decide +kernel
theorem dX10_readBy_4 : decode cX10_readBy 4 = .ok (.iload_n 3, 1) := by decide +kernel
theorem dX10_readBy_5 : decode cX10_readBy 5 = .ok (.aload_n 0, 1) := by decide +kernel
theorem dX10_readBy_6 : decode cX10_readBy 6 = .ok (.getfield 288, 3) := by decide +kernel
theorem dX10_readBy_9 : decode cX10_readBy 9 = .ok (.if_icmp .ge 89, 3) := by decide +kernel
theorem dX10_readBy_12 : decode cX10_readBy 12 = .ok (.iconst 0, 1) := by decide +kernel
theorem dX10_readBy_13 : decode cX10_readBy 13 = .ok (.istore 4, 2) := by decide +kernel
theorem dX10_readBy_15 : decode cX10_readBy 15 = .ok (.aload_n 0, 1) := by decide +kernel
theorem dX10_readBy_16 : decode cX10_readBy 16 = .ok (.getfield 93, 3) := by decide +kernel
theorem dX10_readBy_19 : decode cX10_readBy 19 = .ok (.iload_n 3, 1) := by decide +kernel
theorem dX10_readBy_20 : decode cX10_readBy 20 = .ok (.iaload, 1) := by decide +kernel
theorem dX10_readBy_21 : decode cX10_readBy 21 = .ok (.iconst 1, 1) := by decide +kernel
theorem dX10_readBy_22 : decode cX10_readBy 22 = .ok (.isub, 1) := by decide +kernel
theorem dX10_readBy_23 : decode cX10_readBy 23 = .ok (.istore 5, 2) := by decide +kernel
theorem dX10_readBy_25 : decode cX10_readBy 25 = .ok (.iload 5, 2) := by decide +kernel
theorem dX10_readBy_27 : decode cX10_readBy 27 = .ok (.ifCond .lt 36, 3) := by decide +kernel
theorem dX10_readBy_30 : decode cX10_readBy 30 = .ok (.iconst 4, 1) := by decide +kernel
theorem dX10_readBy_31 : decode cX10_readBy 31 = .ok (.iload 4, 2) := by decide +kernel
theorem dX10_readBy_33 : decode cX10_readBy 33 = .ok (.imul, 1) := by decide +kernel
theorem dX10_readBy_34 : decode cX10_readBy 34 = .ok (.iload_n 1, 1) := by decide +kernel
theorem dX10_readBy_35 : decode cX10_readBy 35 = .ok (.iconst 2, 1) := by decide +kernel
theorem dX10_readBy_36 : decode cX10_readBy 36 = .ok (.aload_n 0, 1) := by decide +kernel
theorem dX10_readBy_37 : decode cX10_readBy 37 = .ok (.getfield 96, 3) := by decide +kernel
theorem dX10_readBy_40 : decode cX10_readBy 40 = .ok (.iload_n 3, 1) := by decide +kernel
theorem dX10_readBy_41 : decode cX10_readBy 41 = .ok (.iaload, 1) := by decide +kernel
theorem dX10_readBy_42 : decode cX10_readBy 42 = .ok (.iconst 3, 1) := by decide +kernel
theorem dX10_readBy_43 : decode cX10_readBy 43 = .ok (.iload 5, 2) := by decide +kernel
theorem dX10_readBy_45 : decode cX10_readBy 45 = .ok (.imul, 1) := by decide +kernel
theorem dX10_readBy_46 : decode cX10_readBy 46 = .ok (.ishr, 1) := by decide +kernel
theorem dX10_readBy_47 : decode cX10_readBy 47 = .ok (.bipush 7, 2) := by decide +kernel
theorem dX10_readBy_49 : decode cX10_readBy 49 = .ok (.iand, 1) := by decide +kernel
theorem dX10_readBy_50 : decode cX10_readBy 50 = .ok (.imul, 1) := by decide +kernel
theorem dX10_readBy_51 : decode cX10_readBy 51 = .ok (.ishr, 1) := by decide +kernel
theorem dX10_readBy_52 : decode cX10_readBy 52 = .ok (.iconst 3, 1) := by decide +kernel
theorem dX10_readBy_53 : decode cX10_readBy 53 = .ok (.iand, 1) := by decide +kernel
theorem dX10_readBy_54 : decode cX10_readBy 54 = .ok (.iadd, 1) := by decide +kernel
theorem dX10_readBy_55 : decode cX10_readBy 55 = .ok (.istore 4, 2) := by decide +kernel
theorem dX10_readBy_57 : decode cX10_readBy 57 = .ok (.iinc 5 (-1), 3) := by decide +kernel
theorem dX10_readBy_60 : decode cX10_readBy 60 = .ok (.goto (-35), 3) := by decide +kernel
theorem dX10_readBy_63 : decode cX10_readBy 63 = .ok (.iload_n 2, 1) := by decide +kernel
theorem dX10_readBy_64 : decode cX10_readBy 64 = .ok (.aload_n 0, 1) := by decide +kernel
theorem dX10_readBy_65 : decode cX10_readBy 65 = .ok (.getfield 99, 3) := by decide +kernel
theorem dX10_readBy_68 : decode cX10_readBy 68 = .ok (.sipush 4096, 3) := by decide +kernel
theorem dX10_readBy_71 : decode cX10_readBy 71 = .ok (.aload_n 0, 1) := by decide +kernel
theorem dX10_readBy_72 : decode cX10_readBy 72 = .ok (.getfield 93, 3) := by decide +kernel
theorem dX10_readBy_75 : decode cX10_readBy 75 = .ok (.iload_n 3, 1) := by decide +kernel
theorem dX10_readBy_76 : decode cX10_readBy 76 = .ok (.iaload, 1) := by decide +kernel
theorem dX10_readBy_77 : decode cX10_readBy 77 = .ok (.imul, 1) := by decide +kernel
theorem dX10_readBy_78 : decode cX10_readBy 78 = .ok (.iload 4, 2) := by decide +kernel
theorem dX10_readBy_80 : decode cX10_readBy 80 = .ok (.iadd, 1) := by decide +kernel
theorem dX10_readBy_81 : decode cX10_readBy 81 = .ok (.baload, 1) := by decide +kernel
theorem dX10_readBy_82 : decode cX10_readBy 82 = .ok (.ifCond .eq 7, 3) := by decide +kernel
theorem dX10_readBy_85 : decode cX10_readBy 85 = .ok (.iconst 1, 1) := by decide +kernel
theorem dX10_readBy_86 : decode cX10_readBy 86 = .ok (.goto 4, 3) := by decide +kernel
theorem dX10_readBy_89 : decode cX10_readBy 89 = .ok (.iconst 0, 1) := by decide +kernel
theorem dX10_readBy_90 : decode cX10_readBy 90 = .ok (.iadd, 1) := by decide +kernel
theorem dX10_readBy_91 : decode cX10_readBy 91 = .ok (.istore_n 2, 1) := by decide +kernel
theorem dX10_readBy_92 : decode cX10_readBy 92 = .ok (.iinc 3 1, 3) := by decide +kernel
theorem dX10_readBy_95 : decode cX10_readBy 95 = .ok (.goto (-91), 3) := by decide +kernel
theorem dX10_readBy_98 : decode cX10_readBy 98 = .ok (.iload_n 2, 1) := by decide +kernel
theorem dX10_readBy_99 : decode cX10_readBy 99 = .ok (.ireturn, 1) := by decide +kernel
theorem dX10_areTexts_0 : decode cX10_areTexts 0 = .ok (.iload_n 1, 1) := by decide +kernel
theorem dX10_areTexts_1 : decode cX10_areTexts 1 = .ok (.i2l, 1) := by decide +kernel
theorem dX10_areTexts_2 : decode cX10_areTexts 2 = .ok (.lconst 0, 1) := by decide +kernel
theorem dX10_areTexts_3 : decode cX10_areTexts 3 = .ok (.iconst 1, 1) := by decide +kernel
theorem dX10_areTexts_4 : decode cX10_areTexts 4 = .ok (.aload_n 0, 1) := by decide +kernel
theorem dX10_areTexts_5 : decode cX10_areTexts 5 = .ok (.getfield 164, 3) := by decide +kernel
theorem dX10_areTexts_8 : decode cX10_areTexts 8 = .ok (.ishl, 1) := by decide +kernel
theorem dX10_areTexts_9 : decode cX10_areTexts 9 = .ok (.iconst 1, 1) := by decide +kernel
theorem dX10_areTexts_10 : decode cX10_areTexts 10 = .ok (.isub, 1) := by decide +kernel
theorem dX10_areTexts_11 : decode cX10_areTexts 11 = .ok (.i2l, 1) := by decide +kernel
theorem dX10_areTexts_12 : decode cX10_areTexts 12 = .ok (.invokestatic 138, 3) := by decide +kernel
theorem dX10_areTexts_15 : decode cX10_areTexts 15 = .ok (.ireturn, 1) := by decide +kernel
theorem dX10_read_0 : decode cX10_read 0 = .ok (.aload_n 0, 1) := by decide +kernel
theorem dX10_read_1 : decode cX10_read 1 = .ok (.invokevirtual 285, 3) := by decide +kernel
theorem dX10_read_4 : decode cX10_read 4 = .ok (.aload_n 0, 1) := by decide +kernel
theorem dX10_read_5 : decode cX10_read 5 = .ok (.iload_n 1, 1) := by decide +kernel
theorem dX10_read_6 : decode cX10_read 6 = .ok (.invokevirtual 291, 3) := by decide +kernel
theorem dX10_read_9 : decode cX10_read 9 = .ok (.ifCond .eq 23, 3) := by decide +kernel
theorem dX10_read_12 : decode cX10_read 12 = .ok (.iload_n 2, 1) := by decide +kernel
theorem dX10_read_13 : decode cX10_read 13 = .ok (.i2l, 1) := by decide +kernel
theorem dX10_read_14 : decode cX10_read 14 = .ok (.lconst 0, 1) := by decide +kernel
theorem dX10_read_15 : decode cX10_read 15 = .ok (.iconst 1, 1) := by decide +kernel
theorem dX10_read_16 : decode cX10_read 16 = .ok (.iconst 2, 1) := by decide +kernel
theorem dX10_read_17 : decode cX10_read 17 = .ok (.aload_n 0, 1) := by decide +kernel
theorem dX10_read_18 : decode cX10_read 18 = .ok (.getfield 282, 3) := by decide +kernel
theorem dX10_read_21 : decode cX10_read 21 = .ok (.imul, 1) := by decide +kernel
theorem dX10_read_22 : decode cX10_read 22 = .ok (.ishl, 1) := by decide +kernel
theorem dX10_read_23 : decode cX10_read 23 = .ok (.iconst 1, 1) := by decide +kernel
theorem dX10_read_24 : decode cX10_read 24 = .ok (.isub, 1) := by decide +kernel
theorem dX10_read_25 : decode cX10_read 25 = .ok (.i2l, 1) := by decide +kernel
theorem dX10_read_26 : decode cX10_read 26 = .ok (.invokestatic 138, 3) := by decide +kernel
theorem dX10_read_29 : decode cX10_read 29 = .ok (.ifCond .ne 5, 3) := by decide +kernel
theorem dX10_read_32 : decode cX10_read 32 = .ok (.iconst (-1), 1) := by decide +kernel
theorem dX10_read_33 : decode cX10_read 33 = .ok (.ireturn, 1) := by decide +kernel
theorem dX10_read_34 : decode cX10_read 34 = .ok (.aload_n 0, 1) := by decide +kernel
theorem dX10_read_35 : decode cX10_read 35 = .ok (.invokevirtual 294, 3) := by decide +kernel
theorem dX10_read_38 : decode cX10_read 38 = .ok (.aload_n 0, 1) := by decide +kernel
theorem dX10_read_39 : decode cX10_read 39 = .ok (.iload_n 1, 1) := by decide +kernel
theorem dX10_read_40 : decode cX10_read 40 = .ok (.invokevirtual 297, 3) := by decide +kernel
theorem dX10_read_43 : decode cX10_read 43 = .ok (.aload_n 0, 1) := by decide +kernel
theorem dX10_read_44 : decode cX10_read 44 = .ok (.iload_n 2, 1) := by decide +kernel
theorem dX10_read_45 : decode cX10_read 45 = .ok (.invokevirtual 300, 3) := by decide +kernel
theorem dX10_read_48 : decode cX10_read 48 = .ok (.ireturn, 1) := by decide +kernel
theorem dX10_turned_0 : decode cX10_turned 0 = .ok (.iconst 0, 1) := by decide +kernel
theorem dX10_turned_1 : decode cX10_turned 1 = .ok (.istore_n 2, 1) := by decide +kernel
theorem dX10_turned_2 : decode cX10_turned 2 = .ok (.iconst 0, 1) := by decide +kernel
theorem dX10_turned_3 : decode cX10_turned 3 = .ok (.istore_n 3, 1) := by decide +kernel
theorem dX10_turned_4 : decode cX10_turned 4 = .ok (.iload_n 3, 1) := by decide +kernel
theorem dX10_turned_5 : decode cX10_turned 5 = .ok (.aload_n 0, 1) := by decide +kernel
theorem dX10_turned_6 : decode cX10_turned 6 = .ok (.getfield 282, 3) := by decide +kernel
theorem dX10_turned_9 : decode cX10_turned 9 = .ok (.if_icmp .ge 21, 3) := by decide +kernel
theorem dX10_turned_12 : decode cX10_turned 12 = .ok (.iconst 4, 1) := by decide +kernel
theorem dX10_turned_13 : decode cX10_turned 13 = .ok (.iload_n 2, 1) := by decide +kernel
theorem dX10_turned_14 : decode cX10_turned 14 = .ok (.imul, 1) := by decide +kernel
theorem dX10_turned_15 : decode cX10_turned 15 = .ok (.iload_n 1, 1) := by decide +kernel
theorem dX10_turned_16 : decode cX10_turned 16 = .ok (.iconst 2, 1) := by decide +kernel
theorem dX10_turned_17 : decode cX10_turned 17 = .ok (.iload_n 3, 1) := by decide +kernel
theorem dX10_turned_18 : decode cX10_turned 18 = .ok (.imul, 1) := by decide +kernel
theorem dX10_turned_19 : decode cX10_turned 19 = .ok (.ishr, 1) := by decide +kernel
theorem dX10_turned_20 : decode cX10_turned 20 = .ok (.iconst 3, 1) := by decide +kernel
theorem dX10_turned_21 : decode cX10_turned 21 = .ok (.iand, 1) := by decide +kernel
theorem dX10_turned_22 : decode cX10_turned 22 = .ok (.iadd, 1) := by decide +kernel
theorem dX10_turned_23 : decode cX10_turned 23 = .ok (.istore_n 2, 1) := by decide +kernel
theorem dX10_turned_24 : decode cX10_turned 24 = .ok (.iinc 3 1, 3) := by decide +kernel
theorem dX10_turned_27 : decode cX10_turned 27 = .ok (.goto (-23), 3) := by decide +kernel
theorem dX10_turned_30 : decode cX10_turned 30 = .ok (.iload_n 2, 1) := by decide +kernel
theorem dX10_turned_31 : decode cX10_turned 31 = .ok (.ireturn, 1) := by decide +kernel
theorem dX10_findBest_0 : decode cX10_findBest 0 = .ok (.aload_n 0, 1) := by decide +kernel
theorem dX10_findBest_1 : decode cX10_findBest 1 = .ok (.invokevirtual 285, 3) := by decide +kernel
theorem dX10_findBest_4 : decode cX10_findBest 4 = .ok (.aload_n 0, 1) := by decide +kernel
theorem dX10_findBest_5 : decode cX10_findBest 5 = .ok (.invokevirtual 294, 3) := by decide +kernel
theorem dX10_findBest_8 : decode cX10_findBest 8 = .ok (.aload_n 0, 1) := by decide +kernel
theorem dX10_findBest_9 : decode cX10_findBest 9 = .ok (.iload_n 1, 1) := by decide +kernel
theorem dX10_findBest_10 : decode cX10_findBest 10 = .ok (.invokevirtual 297, 3) := by decide +kernel
theorem dX10_findBest_13 : decode cX10_findBest 13 = .ok (.aload_n 0, 1) := by decide +kernel
theorem dX10_findBest_14 : decode cX10_findBest 14 = .ok (.iconst (-1), 1) := by decide +kernel
theorem dX10_findBest_15 : decode cX10_findBest 15 = .ok (.putfield 303, 3) := by decide +kernel
theorem dX10_findBest_18 : decode cX10_findBest 18 = .ok (.aload_n 0, 1) := by decide +kernel
theorem dX10_findBest_19 : decode cX10_findBest 19 = .ok (.iconst 0, 1) := by decide +kernel
theorem dX10_findBest_20 : decode cX10_findBest 20 = .ok (.putfield 306, 3) := by decide +kernel
theorem dX10_findBest_23 : decode cX10_findBest 23 = .ok (.iconst 0, 1) := by decide +kernel
theorem dX10_findBest_24 : decode cX10_findBest 24 = .ok (.istore_n 2, 1) := by decide +kernel
theorem dX10_findBest_25 : decode cX10_findBest 25 = .ok (.iload_n 2, 1) := by decide +kernel
theorem dX10_findBest_26 : decode cX10_findBest 26 = .ok (.iconst 1, 1) := by decide +kernel
theorem dX10_findBest_27 : decode cX10_findBest 27 = .ok (.iconst 2, 1) := by decide +kernel
theorem dX10_findBest_28 : decode cX10_findBest 28 = .ok (.aload_n 0, 1) := by decide +kernel
theorem dX10_findBest_29 : decode cX10_findBest 29 = .ok (.getfield 282, 3) := by decide +kernel
theorem dX10_findBest_32 : decode cX10_findBest 32 = .ok (.imul, 1) := by decide +kernel
theorem dX10_findBest_33 : decode cX10_findBest 33 = .ok (.ishl, 1) := by decide +kernel
theorem dX10_findBest_34 : decode cX10_findBest 34 = .ok (.if_icmp .ge 70, 3) := by decide +kernel
theorem dX10_findBest_37 : decode cX10_findBest 37 = .ok (.aload_n 0, 1) := by decide +kernel
theorem dX10_findBest_38 : decode cX10_findBest 38 = .ok (.iload_n 2, 1) := by decide +kernel
theorem dX10_findBest_39 : decode cX10_findBest 39 = .ok (.invokevirtual 309, 3) := by decide +kernel
theorem dX10_findBest_42 : decode cX10_findBest 42 = .ok (.istore_n 3, 1) := by decide +kernel
theorem dX10_findBest_43 : decode cX10_findBest 43 = .ok (.aload_n 0, 1) := by decide +kernel
theorem dX10_findBest_44 : decode cX10_findBest 44 = .ok (.iload_n 3, 1) := by decide +kernel
theorem dX10_findBest_45 : decode cX10_findBest 45 = .ok (.invokevirtual 300, 3) := by decide +kernel
theorem dX10_findBest_48 : decode cX10_findBest 48 = .ok (.istore 4, 2) := by decide +kernel
theorem dX10_findBest_50 : decode cX10_findBest 50 = .ok (.iload 4, 2) := by decide +kernel
theorem dX10_findBest_52 : decode cX10_findBest 52 = .ok (.aload_n 0, 1) := by decide +kernel
theorem dX10_findBest_53 : decode cX10_findBest 53 = .ok (.getfield 303, 3) := by decide +kernel
theorem dX10_findBest_56 : decode cX10_findBest 56 = .ok (.if_icmp .le 19, 3) := by decide +kernel
theorem dX10_findBest_59 : decode cX10_findBest 59 = .ok (.aload_n 0, 1) := by decide +kernel
theorem dX10_findBest_60 : decode cX10_findBest 60 = .ok (.iload_n 3, 1) := by decide +kernel
theorem dX10_findBest_61 : decode cX10_findBest 61 = .ok (.putfield 312, 3) := by decide +kernel
theorem dX10_findBest_64 : decode cX10_findBest 64 = .ok (.aload_n 0, 1) := by decide +kernel
theorem dX10_findBest_65 : decode cX10_findBest 65 = .ok (.iload 4, 2) := by decide +kernel
theorem dX10_findBest_67 : decode cX10_findBest 67 = .ok (.putfield 303, 3) := by decide +kernel
theorem dX10_findBest_70 : decode cX10_findBest 70 = .ok (.aload_n 0, 1) := by decide +kernel
theorem dX10_findBest_71 : decode cX10_findBest 71 = .ok (.iconst 0, 1) := by decide +kernel
theorem dX10_findBest_72 : decode cX10_findBest 72 = .ok (.putfield 306, 3) := by decide +kernel
theorem dX10_findBest_75 : decode cX10_findBest 75 = .ok (.aload_n 0, 1) := by decide +kernel
theorem dX10_findBest_76 : decode cX10_findBest 76 = .ok (.dup, 1) := by decide +kernel
theorem dX10_findBest_77 : decode cX10_findBest 77 = .ok (.getfield 306, 3) := by decide +kernel
theorem dX10_findBest_80 : decode cX10_findBest 80 = .ok (.iload 4, 2) := by decide +kernel
theorem dX10_findBest_82 : decode cX10_findBest 82 = .ok (.aload_n 0, 1) := by decide +kernel
theorem dX10_findBest_83 : decode cX10_findBest 83 = .ok (.getfield 303, 3) := by decide +kernel
theorem dX10_findBest_86 : decode cX10_findBest 86 = .ok (.if_icmp .ne 7, 3) := by decide +kernel
theorem dX10_findBest_89 : decode cX10_findBest 89 = .ok (.iconst 1, 1) := by decide +kernel
theorem dX10_findBest_90 : decode cX10_findBest 90 = .ok (.goto 4, 3) := by decide +kernel
theorem dX10_findBest_93 : decode cX10_findBest 93 = .ok (.iconst 0, 1) := by decide +kernel
theorem dX10_findBest_94 : decode cX10_findBest 94 = .ok (.iadd, 1) := by decide +kernel
theorem dX10_findBest_95 : decode cX10_findBest 95 = .ok (.putfield 306, 3) := by decide +kernel
theorem dX10_findBest_98 : decode cX10_findBest 98 = .ok (.iinc 2 1, 3) := by decide +kernel
theorem dX10_findBest_101 : decode cX10_findBest 101 = .ok (.goto (-76), 3) := by decide +kernel
theorem dX10_findBest_104 : decode cX10_findBest 104 = .ok (.return_, 1) := by decide +kernel
theorem dX10_best_0 : decode cX10_best 0 = .ok (.aload_n 0, 1) := by decide +kernel
theorem dX10_best_1 : decode cX10_best 1 = .ok (.iload_n 1, 1) := by decide +kernel
theorem dX10_best_2 : decode cX10_best 2 = .ok (.invokevirtual 291, 3) := by decide +kernel
theorem dX10_best_5 : decode cX10_best 5 = .ok (.ifCond .eq 15, 3) := by decide +kernel
theorem dX10_best_8 : decode cX10_best 8 = .ok (.iload_n 2, 1) := by decide +kernel
theorem dX10_best_9 : decode cX10_best 9 = .ok (.i2l, 1) := by decide +kernel
theorem dX10_best_10 : decode cX10_best 10 = .ok (.lconst 0, 1) := by decide +kernel
theorem dX10_best_11 : decode cX10_best 11 = .ok (.ldc2_w 198, 3) := by decide +kernel
theorem dX10_best_14 : decode cX10_best 14 = .ok (.invokestatic 138, 3) := by decide +kernel
theorem dX10_best_17 : decode cX10_best 17 = .ok (.ifCond .ne 5, 3) := by decide +kernel
theorem dX10_best_20 : decode cX10_best 20 = .ok (.iconst (-1), 1) := by decide +kernel
theorem dX10_best_21 : decode cX10_best 21 = .ok (.ireturn, 1) := by decide +kernel
theorem dX10_best_22 : decode cX10_best 22 = .ok (.aload_n 0, 1) := by decide +kernel
theorem dX10_best_23 : decode cX10_best 23 = .ok (.iload_n 1, 1) := by decide +kernel
theorem dX10_best_24 : decode cX10_best 24 = .ok (.invokevirtual 315, 3) := by decide +kernel
theorem dX10_best_27 : decode cX10_best 27 = .ok (.iload_n 2, 1) := by decide +kernel
theorem dX10_best_28 : decode cX10_best 28 = .ok (.ifCond .ne 10, 3) := by decide +kernel
theorem dX10_best_31 : decode cX10_best 31 = .ok (.aload_n 0, 1) := by decide +kernel
theorem dX10_best_32 : decode cX10_best 32 = .ok (.getfield 312, 3) := by decide +kernel
theorem dX10_best_35 : decode cX10_best 35 = .ok (.goto 19, 3) := by decide +kernel
theorem dX10_best_38 : decode cX10_best 38 = .ok (.iload_n 2, 1) := by decide +kernel
theorem dX10_best_39 : decode cX10_best 39 = .ok (.iconst 1, 1) := by decide +kernel
theorem dX10_best_40 : decode cX10_best 40 = .ok (.if_icmp .ne 10, 3) := by decide +kernel
theorem dX10_best_43 : decode cX10_best 43 = .ok (.aload_n 0, 1) := by decide +kernel
theorem dX10_best_44 : decode cX10_best 44 = .ok (.getfield 303, 3) := by decide +kernel
theorem dX10_best_47 : decode cX10_best 47 = .ok (.goto 7, 3) := by decide +kernel
theorem dX10_best_50 : decode cX10_best 50 = .ok (.aload_n 0, 1) := by decide +kernel
theorem dX10_best_51 : decode cX10_best 51 = .ok (.getfield 306, 3) := by decide +kernel
theorem dX10_best_54 : decode cX10_best 54 = .ok (.ireturn, 1) := by decide +kernel
theorem dX10_goesOn_0 : decode cX10_goesOn 0 = .ok (.aload_n 0, 1) := by decide +kernel
theorem dX10_goesOn_1 : decode cX10_goesOn 1 = .ok (.getfield 282, 3) := by decide +kernel
theorem dX10_goesOn_4 : decode cX10_goesOn 4 = .ok (.iconst 2, 1) := by decide +kernel
theorem dX10_goesOn_5 : decode cX10_goesOn 5 = .ok (.isub, 1) := by decide +kernel
theorem dX10_goesOn_6 : decode cX10_goesOn 6 = .ok (.istore_n 1, 1) := by decide +kernel
theorem dX10_goesOn_7 : decode cX10_goesOn 7 = .ok (.iload_n 1, 1) := by decide +kernel
theorem dX10_goesOn_8 : decode cX10_goesOn 8 = .ok (.ifCond .lt 26, 3) := by decide +kernel
theorem dX10_goesOn_11 : decode cX10_goesOn 11 = .ok (.aload_n 0, 1) := by decide +kernel
theorem dX10_goesOn_12 : decode cX10_goesOn 12 = .ok (.getfield 102, 3) := by decide +kernel
theorem dX10_goesOn_15 : decode cX10_goesOn 15 = .ok (.iload_n 1, 1) := by decide +kernel
theorem dX10_goesOn_16 : decode cX10_goesOn 16 = .ok (.iaload, 1) := by decide +kernel
theorem dX10_goesOn_17 : decode cX10_goesOn 17 = .ok (.aload_n 0, 1) := by decide +kernel
theorem dX10_goesOn_18 : decode cX10_goesOn 18 = .ok (.getfield 102, 3) := by decide +kernel
theorem dX10_goesOn_21 : decode cX10_goesOn 21 = .ok (.iload_n 1, 1) := by decide +kernel
theorem dX10_goesOn_22 : decode cX10_goesOn 22 = .ok (.iconst 1, 1) := by decide +kernel
theorem dX10_goesOn_23 : decode cX10_goesOn 23 = .ok (.iadd, 1) := by decide +kernel
theorem dX10_goesOn_24 : decode cX10_goesOn 24 = .ok (.iaload, 1) := by decide +kernel
theorem dX10_goesOn_25 : decode cX10_goesOn 25 = .ok (.if_icmp .le 9, 3) := by decide +kernel
theorem dX10_goesOn_28 : decode cX10_goesOn 28 = .ok (.iinc 1 (-1), 3) := by decide +kernel
theorem dX10_goesOn_31 : decode cX10_goesOn 31 = .ok (.goto (-24), 3) := by decide +kernel
theorem dX10_goesOn_34 : decode cX10_goesOn 34 = .ok (.iload_n 1, 1) := by decide +kernel
theorem dX10_goesOn_35 : decode cX10_goesOn 35 = .ok (.ifCond .ge 5, 3) := by decide +kernel
theorem dX10_goesOn_38 : decode cX10_goesOn 38 = .ok (.iconst 0, 1) := by decide +kernel
theorem dX10_goesOn_39 : decode cX10_goesOn 39 = .ok (.ireturn, 1) := by decide +kernel
theorem dX10_goesOn_40 : decode cX10_goesOn 40 = .ok (.aload_n 0, 1) := by decide +kernel
theorem dX10_goesOn_41 : decode cX10_goesOn 41 = .ok (.getfield 282, 3) := by decide +kernel
theorem dX10_goesOn_44 : decode cX10_goesOn 44 = .ok (.iconst 1, 1) := by decide +kernel
theorem dX10_goesOn_45 : decode cX10_goesOn 45 = .ok (.isub, 1) := by decide +kernel
theorem dX10_goesOn_46 : decode cX10_goesOn 46 = .ok (.istore_n 2, 1) := by decide +kernel
theorem dX10_goesOn_47 : decode cX10_goesOn 47 = .ok (.aload_n 0, 1) := by decide +kernel
theorem dX10_goesOn_48 : decode cX10_goesOn 48 = .ok (.getfield 102, 3) := by decide +kernel
theorem dX10_goesOn_51 : decode cX10_goesOn 51 = .ok (.iload_n 2, 1) := by decide +kernel
theorem dX10_goesOn_52 : decode cX10_goesOn 52 = .ok (.iaload, 1) := by decide +kernel
theorem dX10_goesOn_53 : decode cX10_goesOn 53 = .ok (.aload_n 0, 1) := by decide +kernel
theorem dX10_goesOn_54 : decode cX10_goesOn 54 = .ok (.getfield 102, 3) := by decide +kernel
theorem dX10_goesOn_57 : decode cX10_goesOn 57 = .ok (.iload_n 1, 1) := by decide +kernel
theorem dX10_goesOn_58 : decode cX10_goesOn 58 = .ok (.iaload, 1) := by decide +kernel
theorem dX10_goesOn_59 : decode cX10_goesOn 59 = .ok (.if_icmp .ge 9, 3) := by decide +kernel
theorem dX10_goesOn_62 : decode cX10_goesOn 62 = .ok (.iinc 2 (-1), 3) := by decide +kernel
theorem dX10_goesOn_65 : decode cX10_goesOn 65 = .ok (.goto (-18), 3) := by decide +kernel
theorem dX10_goesOn_68 : decode cX10_goesOn 68 = .ok (.aload_n 0, 1) := by decide +kernel
theorem dX10_goesOn_69 : decode cX10_goesOn 69 = .ok (.getfield 102, 3) := by decide +kernel
theorem dX10_goesOn_72 : decode cX10_goesOn 72 = .ok (.iload_n 1, 1) := by decide +kernel
theorem dX10_goesOn_73 : decode cX10_goesOn 73 = .ok (.iaload, 1) := by decide +kernel
theorem dX10_goesOn_74 : decode cX10_goesOn 74 = .ok (.istore_n 3, 1) := by decide +kernel
theorem dX10_goesOn_75 : decode cX10_goesOn 75 = .ok (.aload_n 0, 1) := by decide +kernel
theorem dX10_goesOn_76 : decode cX10_goesOn 76 = .ok (.getfield 102, 3) := by decide +kernel
theorem dX10_goesOn_79 : decode cX10_goesOn 79 = .ok (.iload_n 1, 1) := by decide +kernel
theorem dX10_goesOn_80 : decode cX10_goesOn 80 = .ok (.aload_n 0, 1) := by decide +kernel
theorem dX10_goesOn_81 : decode cX10_goesOn 81 = .ok (.getfield 102, 3) := by decide +kernel
theorem dX10_goesOn_84 : decode cX10_goesOn 84 = .ok (.iload_n 2, 1) := by decide +kernel
theorem dX10_goesOn_85 : decode cX10_goesOn 85 = .ok (.iaload, 1) := by decide +kernel
theorem dX10_goesOn_86 : decode cX10_goesOn 86 = .ok (.iastore, 1) := by decide +kernel
theorem dX10_goesOn_87 : decode cX10_goesOn 87 = .ok (.aload_n 0, 1) := by decide +kernel
theorem dX10_goesOn_88 : decode cX10_goesOn 88 = .ok (.getfield 102, 3) := by decide +kernel
theorem dX10_goesOn_91 : decode cX10_goesOn 91 = .ok (.iload_n 2, 1) := by decide +kernel
theorem dX10_goesOn_92 : decode cX10_goesOn 92 = .ok (.iload_n 3, 1) := by decide +kernel
theorem dX10_goesOn_93 : decode cX10_goesOn 93 = .ok (.iastore, 1) := by decide +kernel
theorem dX10_goesOn_94 : decode cX10_goesOn 94 = .ok (.iload_n 1, 1) := by decide +kernel
theorem dX10_goesOn_95 : decode cX10_goesOn 95 = .ok (.iconst 1, 1) := by decide +kernel
theorem dX10_goesOn_96 : decode cX10_goesOn 96 = .ok (.iadd, 1) := by decide +kernel
theorem dX10_goesOn_97 : decode cX10_goesOn 97 = .ok (.istore 4, 2) := by decide +kernel
theorem dX10_goesOn_99 : decode cX10_goesOn 99 = .ok (.aload_n 0, 1) := by decide +kernel
theorem dX10_goesOn_100 : decode cX10_goesOn 100 = .ok (.getfield 282, 3) := by decide +kernel
theorem dX10_goesOn_103 : decode cX10_goesOn 103 = .ok (.iconst 1, 1) := by decide +kernel
theorem dX10_goesOn_104 : decode cX10_goesOn 104 = .ok (.isub, 1) := by decide +kernel
theorem dX10_goesOn_105 : decode cX10_goesOn 105 = .ok (.istore 5, 2) := by decide +kernel
theorem dX10_goesOn_107 : decode cX10_goesOn 107 = .ok (.iload 4, 2) := by decide +kernel
theorem dX10_goesOn_109 : decode cX10_goesOn 109 = .ok (.iload 5, 2) := by decide +kernel
theorem dX10_goesOn_111 : decode cX10_goesOn 111 = .ok (.if_icmp .ge 42, 3) := by decide +kernel
theorem dX10_goesOn_114 : decode cX10_goesOn 114 = .ok (.aload_n 0, 1) := by decide +kernel
theorem dX10_goesOn_115 : decode cX10_goesOn 115 = .ok (.getfield 102, 3) := by decide +kernel
theorem dX10_goesOn_118 : decode cX10_goesOn 118 = .ok (.iload 4, 2) := by decide +kernel
theorem dX10_goesOn_120 : decode cX10_goesOn 120 = .ok (.iaload, 1) := by decide +kernel
theorem dX10_goesOn_121 : decode cX10_goesOn 121 = .ok (.istore_n 3, 1) := by decide +kernel
theorem dX10_goesOn_122 : decode cX10_goesOn 122 = .ok (.aload_n 0, 1) := by decide +kernel
theorem dX10_goesOn_123 : decode cX10_goesOn 123 = .ok (.getfield 102, 3) := by decide +kernel
theorem dX10_goesOn_126 : decode cX10_goesOn 126 = .ok (.iload 4, 2) := by decide +kernel
theorem dX10_goesOn_128 : decode cX10_goesOn 128 = .ok (.aload_n 0, 1) := by decide +kernel
theorem dX10_goesOn_129 : decode cX10_goesOn 129 = .ok (.getfield 102, 3) := by decide +kernel
theorem dX10_goesOn_132 : decode cX10_goesOn 132 = .ok (.iload 5, 2) := by decide +kernel
theorem dX10_goesOn_134 : decode cX10_goesOn 134 = .ok (.iaload, 1) := by decide +kernel
theorem dX10_goesOn_135 : decode cX10_goesOn 135 = .ok (.iastore, 1) := by decide +kernel
theorem dX10_goesOn_136 : decode cX10_goesOn 136 = .ok (.aload_n 0, 1) := by decide +kernel
theorem dX10_goesOn_137 : decode cX10_goesOn 137 = .ok (.getfield 102, 3) := by decide +kernel
theorem dX10_goesOn_140 : decode cX10_goesOn 140 = .ok (.iload 5, 2) := by decide +kernel
theorem dX10_goesOn_142 : decode cX10_goesOn 142 = .ok (.iload_n 3, 1) := by decide +kernel
theorem dX10_goesOn_143 : decode cX10_goesOn 143 = .ok (.iastore, 1) := by decide +kernel
theorem dX10_goesOn_144 : decode cX10_goesOn 144 = .ok (.iinc 4 1, 3) := by decide +kernel
theorem dX10_goesOn_147 : decode cX10_goesOn 147 = .ok (.iinc 5 (-1), 3) := by decide +kernel
theorem dX10_goesOn_150 : decode cX10_goesOn 150 = .ok (.goto (-43), 3) := by decide +kernel
theorem dX10_goesOn_153 : decode cX10_goesOn 153 = .ok (.iconst 1, 1) := by decide +kernel
theorem dX10_goesOn_154 : decode cX10_goesOn 154 = .ok (.ireturn, 1) := by decide +kernel
theorem dX10_judge_0 : decode cX10_judge 0 = .ok (.aload_n 0, 1) := by decide +kernel
theorem dX10_judge_1 : decode cX10_judge 1 = .ok (.iload_n 1, 1) := by decide +kernel
theorem dX10_judge_2 : decode cX10_judge 2 = .ok (.invokevirtual 291, 3) := by decide +kernel
theorem dX10_judge_5 : decode cX10_judge 5 = .ok (.ifCond .eq 29, 3) := by decide +kernel
theorem dX10_judge_8 : decode cX10_judge 8 = .ok (.aload_n 0, 1) := by decide +kernel
theorem dX10_judge_9 : decode cX10_judge 9 = .ok (.iload_n 2, 1) := by decide +kernel
theorem dX10_judge_10 : decode cX10_judge 10 = .ok (.invokevirtual 291, 3) := by decide +kernel
theorem dX10_judge_13 : decode cX10_judge 13 = .ok (.ifCond .eq 21, 3) := by decide +kernel
theorem dX10_judge_16 : decode cX10_judge 16 = .ok (.iload_n 1, 1) := by decide +kernel
theorem dX10_judge_17 : decode cX10_judge 17 = .ok (.iload_n 2, 1) := by decide +kernel
theorem dX10_judge_18 : decode cX10_judge 18 = .ok (.iand, 1) := by decide +kernel
theorem dX10_judge_19 : decode cX10_judge 19 = .ok (.ifCond .ne 15, 3) := by decide +kernel
theorem dX10_judge_22 : decode cX10_judge 22 = .ok (.iload_n 3, 1) := by decide +kernel
theorem dX10_judge_23 : decode cX10_judge 23 = .ok (.i2l, 1) := by decide +kernel
theorem dX10_judge_24 : decode cX10_judge 24 = .ok (.lconst 0, 1) := by decide +kernel
theorem dX10_judge_25 : decode cX10_judge 25 = .ok (.ldc2_w 198, 3) := by decide +kernel
theorem dX10_judge_28 : decode cX10_judge 28 = .ok (.invokestatic 138, 3) := by decide +kernel
theorem dX10_judge_31 : decode cX10_judge 31 = .ok (.ifCond .ne 5, 3) := by decide +kernel
theorem dX10_judge_34 : decode cX10_judge 34 = .ok (.iconst (-1), 1) := by decide +kernel
theorem dX10_judge_35 : decode cX10_judge 35 = .ok (.ireturn, 1) := by decide +kernel
theorem dX10_judge_36 : decode cX10_judge 36 = .ok (.aload_n 0, 1) := by decide +kernel
theorem dX10_judge_37 : decode cX10_judge 37 = .ok (.iload_n 1, 1) := by decide +kernel
theorem dX10_judge_38 : decode cX10_judge 38 = .ok (.invokevirtual 315, 3) := by decide +kernel
theorem dX10_judge_41 : decode cX10_judge 41 = .ok (.aload_n 0, 1) := by decide +kernel
theorem dX10_judge_42 : decode cX10_judge 42 = .ok (.iload_n 2, 1) := by decide +kernel
theorem dX10_judge_43 : decode cX10_judge 43 = .ok (.invokevirtual 297, 3) := by decide +kernel
theorem dX10_judge_46 : decode cX10_judge 46 = .ok (.aload_n 0, 1) := by decide +kernel
theorem dX10_judge_47 : decode cX10_judge 47 = .ok (.aload_n 0, 1) := by decide +kernel
theorem dX10_judge_48 : decode cX10_judge 48 = .ok (.getfield 312, 3) := by decide +kernel
theorem dX10_judge_51 : decode cX10_judge 51 = .ok (.invokevirtual 300, 3) := by decide +kernel
theorem dX10_judge_54 : decode cX10_judge 54 = .ok (.istore 4, 2) := by decide +kernel
theorem dX10_judge_56 : decode cX10_judge 56 = .ok (.iconst 0, 1) := by decide +kernel
theorem dX10_judge_57 : decode cX10_judge 57 = .ok (.istore 5, 2) := by decide +kernel
theorem dX10_judge_59 : decode cX10_judge 59 = .ok (.iconst 0, 1) := by decide +kernel
theorem dX10_judge_60 : decode cX10_judge 60 = .ok (.istore 6, 2) := by decide +kernel
theorem dX10_judge_62 : decode cX10_judge 62 = .ok (.iconst 0, 1) := by decide +kernel
theorem dX10_judge_63 : decode cX10_judge 63 = .ok (.istore 7, 2) := by decide +kernel
theorem dX10_judge_65 : decode cX10_judge 65 = .ok (.iload 7, 2) := by decide +kernel
theorem dX10_judge_67 : decode cX10_judge 67 = .ok (.bipush 6, 2) := by decide +kernel
theorem dX10_judge_69 : decode cX10_judge 69 = .ok (.if_icmp .ge 18, 3) := by decide +kernel
theorem dX10_judge_72 : decode cX10_judge 72 = .ok (.aload_n 0, 1) := by decide +kernel
theorem dX10_judge_73 : decode cX10_judge 73 = .ok (.getfield 102, 3) := by decide +kernel
theorem dX10_judge_76 : decode cX10_judge 76 = .ok (.iload 7, 2) := by decide +kernel
theorem dX10_judge_78 : decode cX10_judge 78 = .ok (.iload 7, 2) := by decide +kernel
theorem dX10_judge_80 : decode cX10_judge 80 = .ok (.iastore, 1) := by decide +kernel
theorem dX10_judge_81 : decode cX10_judge 81 = .ok (.iinc 7 1, 3) := by decide +kernel
theorem dX10_judge_84 : decode cX10_judge 84 = .ok (.goto (-19), 3) := by decide +kernel
theorem dX10_judge_87 : decode cX10_judge 87 = .ok (.iconst 1, 1) := by decide +kernel
theorem dX10_judge_88 : decode cX10_judge 88 = .ok (.istore 7, 2) := by decide +kernel
theorem dX10_judge_90 : decode cX10_judge 90 = .ok (.iload 7, 2) := by decide +kernel
theorem dX10_judge_92 : decode cX10_judge 92 = .ok (.ifCond .eq 83, 3) := by decide +kernel
theorem dX10_judge_95 : decode cX10_judge 95 = .ok (.iconst 0, 1) := by decide +kernel
theorem dX10_judge_96 : decode cX10_judge 96 = .ok (.istore 8, 2) := by decide +kernel
theorem dX10_judge_98 : decode cX10_judge 98 = .ok (.iconst 0, 1) := by decide +kernel
theorem dX10_judge_99 : decode cX10_judge 99 = .ok (.istore 9, 2) := by decide +kernel
theorem dX10_judge_101 : decode cX10_judge 101 = .ok (.iload 9, 2) := by decide +kernel
theorem dX10_judge_103 : decode cX10_judge 103 = .ok (.aload_n 0, 1) := by decide +kernel
theorem dX10_judge_104 : decode cX10_judge 104 = .ok (.getfield 282, 3) := by decide +kernel
theorem dX10_judge_107 : decode cX10_judge 107 = .ok (.if_icmp .ge 35, 3) := by decide +kernel
theorem dX10_judge_110 : decode cX10_judge 110 = .ok (.iload 8, 2) := by decide +kernel
theorem dX10_judge_112 : decode cX10_judge 112 = .ok (.aload_n 0, 1) := by decide +kernel
theorem dX10_judge_113 : decode cX10_judge 113 = .ok (.getfield 312, 3) := by decide +kernel
theorem dX10_judge_116 : decode cX10_judge 116 = .ok (.iconst 2, 1) := by decide +kernel
theorem dX10_judge_117 : decode cX10_judge 117 = .ok (.aload_n 0, 1) := by decide +kernel
theorem dX10_judge_118 : decode cX10_judge 118 = .ok (.getfield 102, 3) := by decide +kernel
theorem dX10_judge_121 : decode cX10_judge 121 = .ok (.iload 9, 2) := by decide +kernel
theorem dX10_judge_123 : decode cX10_judge 123 = .ok (.iaload, 1) := by decide +kernel
theorem dX10_judge_124 : decode cX10_judge 124 = .ok (.imul, 1) := by decide +kernel
theorem dX10_judge_125 : decode cX10_judge 125 = .ok (.ishr, 1) := by decide +kernel
theorem dX10_judge_126 : decode cX10_judge 126 = .ok (.iconst 3, 1) := by decide +kernel
theorem dX10_judge_127 : decode cX10_judge 127 = .ok (.iand, 1) := by decide +kernel
theorem dX10_judge_128 : decode cX10_judge 128 = .ok (.iconst 2, 1) := by decide +kernel
theorem dX10_judge_129 : decode cX10_judge 129 = .ok (.iload 9, 2) := by decide +kernel
theorem dX10_judge_131 : decode cX10_judge 131 = .ok (.imul, 1) := by decide +kernel
theorem dX10_judge_132 : decode cX10_judge 132 = .ok (.ishl, 1) := by decide +kernel
theorem dX10_judge_133 : decode cX10_judge 133 = .ok (.ior, 1) := by decide +kernel
theorem dX10_judge_134 : decode cX10_judge 134 = .ok (.istore 8, 2) := by decide +kernel
theorem dX10_judge_136 : decode cX10_judge 136 = .ok (.iinc 9 1, 3) := by decide +kernel
theorem dX10_judge_139 : decode cX10_judge 139 = .ok (.goto (-38), 3) := by decide +kernel
theorem dX10_judge_142 : decode cX10_judge 142 = .ok (.iload 5, 2) := by decide +kernel
theorem dX10_judge_144 : decode cX10_judge 144 = .ok (.aload_n 0, 1) := by decide +kernel
theorem dX10_judge_145 : decode cX10_judge 145 = .ok (.iload 8, 2) := by decide +kernel
theorem dX10_judge_147 : decode cX10_judge 147 = .ok (.invokevirtual 300, 3) := by decide +kernel
theorem dX10_judge_150 : decode cX10_judge 150 = .ok (.iload 4, 2) := by decide +kernel
theorem dX10_judge_152 : decode cX10_judge 152 = .ok (.if_icmp .lt 7, 3) := by decide +kernel
theorem dX10_judge_155 : decode cX10_judge 155 = .ok (.iconst 1, 1) := by decide +kernel
theorem dX10_judge_156 : decode cX10_judge 156 = .ok (.goto 4, 3) := by decide +kernel
theorem dX10_judge_159 : decode cX10_judge 159 = .ok (.iconst 0, 1) := by decide +kernel
theorem dX10_judge_160 : decode cX10_judge 160 = .ok (.iadd, 1) := by decide +kernel
theorem dX10_judge_161 : decode cX10_judge 161 = .ok (.istore 5, 2) := by decide +kernel
theorem dX10_judge_163 : decode cX10_judge 163 = .ok (.iinc 6 1, 3) := by decide +kernel
theorem dX10_judge_166 : decode cX10_judge 166 = .ok (.aload_n 0, 1) := by decide +kernel
theorem dX10_judge_167 : decode cX10_judge 167 = .ok (.invokevirtual 318, 3) := by decide +kernel
theorem dX10_judge_170 : decode cX10_judge 170 = .ok (.istore 7, 2) := by decide +kernel
theorem dX10_judge_172 : decode cX10_judge 172 = .ok (.goto (-82), 3) := by decide +kernel
theorem dX10_judge_175 : decode cX10_judge 175 = .ok (.iload_n 3, 1) := by decide +kernel
theorem dX10_judge_176 : decode cX10_judge 176 = .ok (.ifCond .ne 8, 3) := by decide +kernel
theorem dX10_judge_179 : decode cX10_judge 179 = .ok (.iload 4, 2) := by decide +kernel
theorem dX10_judge_181 : decode cX10_judge 181 = .ok (.goto 15, 3) := by decide +kernel
theorem dX10_judge_184 : decode cX10_judge 184 = .ok (.iload_n 3, 1) := by decide +kernel
theorem dX10_judge_185 : decode cX10_judge 185 = .ok (.iconst 1, 1) := by decide +kernel
theorem dX10_judge_186 : decode cX10_judge 186 = .ok (.if_icmp .ne 8, 3) := by decide +kernel
theorem dX10_judge_189 : decode cX10_judge 189 = .ok (.iload 5, 2) := by decide +kernel
theorem dX10_judge_191 : decode cX10_judge 191 = .ok (.goto 5, 3) := by decide +kernel
theorem dX10_judge_194 : decode cX10_judge 194 = .ok (.iload 6, 2) := by decide +kernel
theorem dX10_judge_196 : decode cX10_judge 196 = .ok (.ireturn, 1) := by decide +kernel
theorem dX10_feed_0 : decode cX10_feed 0 = .ok (.aload_n 0, 1) := by decide +kernel
theorem dX10_feed_1 : decode cX10_feed 1 = .ok (.getfield 321, 3) := by decide +kernel
theorem dX10_feed_4 : decode cX10_feed 4 = .ok (.bipush 8, 2) := by decide +kernel
theorem dX10_feed_6 : decode cX10_feed 6 = .ok (.iadd, 1) := by decide +kernel
theorem dX10_feed_7 : decode cX10_feed 7 = .ok (.sipush 160, 3) := by decide +kernel
theorem dX10_feed_10 : decode cX10_feed 10 = .ok (.if_icmp .le 6, 3) := by decide +kernel
theorem dX10_feed_13 : decode cX10_feed 13 = .ok (.bipush (-3), 2) := by decide +kernel
theorem dX10_feed_15 : decode cX10_feed 15 = .ok (.ireturn, 1) := by decide +kernel
theorem dX10_feed_16 : decode cX10_feed 16 = .ok (.bipush 56, 2) := by decide +kernel
theorem dX10_feed_18 : decode cX10_feed 18 = .ok (.istore_n 3, 1) := by decide +kernel
theorem dX10_feed_19 : decode cX10_feed 19 = .ok (.iload_n 3, 1) := by decide +kernel
theorem dX10_feed_20 : decode cX10_feed 20 = .ok (.ifCond .lt 36, 3) := by decide +kernel
theorem dX10_feed_23 : decode cX10_feed 23 = .ok (.aload_n 0, 1) := by decide +kernel
theorem dX10_feed_24 : decode cX10_feed 24 = .ok (.getfield 105, 3) := by decide +kernel
theorem dX10_feed_27 : decode cX10_feed 27 = .ok (.aload_n 0, 1) := by decide +kernel
theorem dX10_feed_28 : decode cX10_feed 28 = .ok (.getfield 321, 3) := by decide +kernel
theorem dX10_feed_31 : decode cX10_feed 31 = .ok (.lload_n 1, 1) := by decide +kernel
theorem dX10_feed_32 : decode cX10_feed 32 = .ok (.iload_n 3, 1) := by decide +kernel
theorem dX10_feed_33 : decode cX10_feed 33 = .ok (.lshr, 1) := by decide +kernel
theorem dX10_feed_34 : decode cX10_feed 34 = .ok (.ldc2_w 324, 3) := by decide +kernel
theorem dX10_feed_37 : decode cX10_feed 37 = .ok (.land, 1) := by decide +kernel
theorem dX10_feed_38 : decode cX10_feed 38 = .ok (.l2i, 1) := by decide +kernel
theorem dX10_feed_39 : decode cX10_feed 39 = .ok (.iastore, 1) := by decide +kernel
theorem dX10_feed_40 : decode cX10_feed 40 = .ok (.aload_n 0, 1) := by decide +kernel
theorem dX10_feed_41 : decode cX10_feed 41 = .ok (.dup, 1) := by decide +kernel
theorem dX10_feed_42 : decode cX10_feed 42 = .ok (.getfield 321, 3) := by decide +kernel
theorem dX10_feed_45 : decode cX10_feed 45 = .ok (.iconst 1, 1) := by decide +kernel
theorem dX10_feed_46 : decode cX10_feed 46 = .ok (.iadd, 1) := by decide +kernel
theorem dX10_feed_47 : decode cX10_feed 47 = .ok (.putfield 321, 3) := by decide +kernel
theorem dX10_feed_50 : decode cX10_feed 50 = .ok (.iinc 3 (-8), 3) := by decide +kernel
theorem dX10_feed_53 : decode cX10_feed 53 = .ok (.goto (-34), 3) := by decide +kernel
theorem dX10_feed_56 : decode cX10_feed 56 = .ok (.aload_n 0, 1) := by decide +kernel
theorem dX10_feed_57 : decode cX10_feed 57 = .ok (.getfield 321, 3) := by decide +kernel
theorem dX10_feed_60 : decode cX10_feed 60 = .ok (.ireturn, 1) := by decide +kernel
theorem dX10_end_0 : decode cX10_end 0 = .ok (.iload_n 1, 1) := by decide +kernel
theorem dX10_end_1 : decode cX10_end 1 = .ok (.i2l, 1) := by decide +kernel
theorem dX10_end_2 : decode cX10_end 2 = .ok (.lconst 0, 1) := by decide +kernel
theorem dX10_end_3 : decode cX10_end 3 = .ok (.aload_n 0, 1) := by decide +kernel
theorem dX10_end_4 : decode cX10_end 4 = .ok (.getfield 321, 3) := by decide +kernel
theorem dX10_end_7 : decode cX10_end 7 = .ok (.i2l, 1) := by decide +kernel
theorem dX10_end_8 : decode cX10_end 8 = .ok (.invokestatic 138, 3) := by decide +kernel
theorem dX10_end_11 : decode cX10_end 11 = .ok (.ifCond .ne 5, 3) := by decide +kernel
theorem dX10_end_14 : decode cX10_end 14 = .ok (.iconst (-1), 1) := by decide +kernel
theorem dX10_end_15 : decode cX10_end 15 = .ok (.ireturn, 1) := by decide +kernel
theorem dX10_end_16 : decode cX10_end 16 = .ok (.aload_n 0, 1) := by decide +kernel
theorem dX10_end_17 : decode cX10_end 17 = .ok (.getfield 321, 3) := by decide +kernel
theorem dX10_end_20 : decode cX10_end 20 = .ok (.istore_n 2, 1) := by decide +kernel
theorem dX10_end_21 : decode cX10_end 21 = .ok (.aload_n 0, 1) := by decide +kernel
theorem dX10_end_22 : decode cX10_end 22 = .ok (.iload_n 1, 1) := by decide +kernel
theorem dX10_end_23 : decode cX10_end 23 = .ok (.putfield 321, 3) := by decide +kernel
theorem dX10_end_26 : decode cX10_end 26 = .ok (.iload_n 2, 1) := by decide +kernel
theorem dX10_end_27 : decode cX10_end 27 = .ok (.ireturn, 1) := by decide +kernel
theorem dX10_wants_0 : decode cX10_wants 0 = .ok (.iload_n 1, 1) := by decide +kernel
theorem dX10_wants_1 : decode cX10_wants 1 = .ok (.ifCond .ne 23, 3) := by decide +kernel
theorem dX10_wants_4 : decode cX10_wants 4 = .ok (.aload_n 0, 1) := by decide +kernel
theorem dX10_wants_5 : decode cX10_wants 5 = .ok (.getfield 326, 3) := by decide +kernel
theorem dX10_wants_8 : decode cX10_wants 8 = .ok (.ifCond .ne 16, 3) := by decide +kernel
theorem dX10_wants_11 : decode cX10_wants 11 = .ok (.aload_n 0, 1) := by decide +kernel
theorem dX10_wants_12 : decode cX10_wants 12 = .ok (.iload_n 2, 1) := by decide +kernel
theorem dX10_wants_13 : decode cX10_wants 13 = .ok (.putfield 326, 3) := by decide +kernel
theorem dX10_wants_16 : decode cX10_wants 16 = .ok (.aload_n 0, 1) := by decide +kernel
theorem dX10_wants_17 : decode cX10_wants 17 = .ok (.aload_n 0, 1) := by decide +kernel
theorem dX10_wants_18 : decode cX10_wants 18 = .ok (.getfield 329, 3) := by decide +kernel
theorem dX10_wants_21 : decode cX10_wants 21 = .ok (.putfield 332, 3) := by decide +kernel
theorem dX10_wants_24 : decode cX10_wants 24 = .ok (.return_, 1) := by decide +kernel
theorem dX10_look_0 : decode cX10_look 0 = .ok (.iload_n 1, 1) := by decide +kernel
theorem dX10_look_1 : decode cX10_look 1 = .ok (.aload_n 0, 1) := by decide +kernel
theorem dX10_look_2 : decode cX10_look 2 = .ok (.getfield 321, 3) := by decide +kernel
theorem dX10_look_5 : decode cX10_look 5 = .ok (.if_icmp .ge 12, 3) := by decide +kernel
theorem dX10_look_8 : decode cX10_look 8 = .ok (.aload_n 0, 1) := by decide +kernel
theorem dX10_look_9 : decode cX10_look 9 = .ok (.getfield 105, 3) := by decide +kernel
theorem dX10_look_12 : decode cX10_look 12 = .ok (.iload_n 1, 1) := by decide +kernel
theorem dX10_look_13 : decode cX10_look 13 = .ok (.iaload, 1) := by decide +kernel
theorem dX10_look_14 : decode cX10_look 14 = .ok (.goto 4, 3) := by decide +kernel
theorem dX10_look_17 : decode cX10_look 17 = .ok (.iconst (-1), 1) := by decide +kernel
theorem dX10_look_18 : decode cX10_look 18 = .ok (.ireturn, 1) := by decide +kernel
theorem dX10_is_0 : decode cX10_is 0 = .ok (.aload_n 0, 1) := by decide +kernel
theorem dX10_is_1 : decode cX10_is 1 = .ok (.getfield 335, 3) := by decide +kernel
theorem dX10_is_4 : decode cX10_is 4 = .ok (.aload_n 0, 1) := by decide +kernel
theorem dX10_is_5 : decode cX10_is 5 = .ok (.getfield 329, 3) := by decide +kernel
theorem dX10_is_8 : decode cX10_is 8 = .ok (.isub, 1) := by decide +kernel
theorem dX10_is_9 : decode cX10_is 9 = .ok (.iload_n 1, 1) := by decide +kernel
theorem dX10_is_10 : decode cX10_is 10 = .ok (.if_icmp .ne 88, 3) := by decide +kernel
theorem dX10_is_13 : decode cX10_is 13 = .ok (.aload_n 0, 1) := by decide +kernel
theorem dX10_is_14 : decode cX10_is 14 = .ok (.aload_n 0, 1) := by decide +kernel
theorem dX10_is_15 : decode cX10_is 15 = .ok (.getfield 329, 3) := by decide +kernel
theorem dX10_is_18 : decode cX10_is 18 = .ok (.invokevirtual 338, 3) := by decide +kernel
theorem dX10_is_21 : decode cX10_is 21 = .ok (.iload_n 2, 1) := by decide +kernel
theorem dX10_is_22 : decode cX10_is 22 = .ok (.if_icmp .ne 76, 3) := by decide +kernel
theorem dX10_is_25 : decode cX10_is 25 = .ok (.aload_n 0, 1) := by decide +kernel
theorem dX10_is_26 : decode cX10_is 26 = .ok (.aload_n 0, 1) := by decide +kernel
theorem dX10_is_27 : decode cX10_is 27 = .ok (.getfield 329, 3) := by decide +kernel
theorem dX10_is_30 : decode cX10_is 30 = .ok (.iconst 1, 1) := by decide +kernel
theorem dX10_is_31 : decode cX10_is 31 = .ok (.iadd, 1) := by decide +kernel
theorem dX10_is_32 : decode cX10_is 32 = .ok (.invokevirtual 338, 3) := by decide +kernel
theorem dX10_is_35 : decode cX10_is 35 = .ok (.iload_n 3, 1) := by decide +kernel
theorem dX10_is_36 : decode cX10_is 36 = .ok (.if_icmp .ne 62, 3) := by decide +kernel
theorem dX10_is_39 : decode cX10_is 39 = .ok (.iload_n 1, 1) := by decide +kernel
theorem dX10_is_40 : decode cX10_is 40 = .ok (.iconst 3, 1) := by decide +kernel
theorem dX10_is_41 : decode cX10_is 41 = .ok (.if_icmp .lt 33, 3) := by decide +kernel
theorem dX10_is_44 : decode cX10_is 44 = .ok (.aload_n 0, 1) := by decide +kernel
theorem dX10_is_45 : decode cX10_is 45 = .ok (.aload_n 0, 1) := by decide +kernel
theorem dX10_is_46 : decode cX10_is 46 = .ok (.getfield 329, 3) := by decide +kernel
theorem dX10_is_49 : decode cX10_is 49 = .ok (.iconst 2, 1) := by decide +kernel
theorem dX10_is_50 : decode cX10_is 50 = .ok (.iadd, 1) := by decide +kernel
theorem dX10_is_51 : decode cX10_is 51 = .ok (.invokevirtual 338, 3) := by decide +kernel
theorem dX10_is_54 : decode cX10_is 54 = .ok (.iload 4, 2) := by decide +kernel
theorem dX10_is_56 : decode cX10_is 56 = .ok (.if_icmp .ne 42, 3) := by decide +kernel
theorem dX10_is_59 : decode cX10_is 59 = .ok (.aload_n 0, 1) := by decide +kernel
theorem dX10_is_60 : decode cX10_is 60 = .ok (.aload_n 0, 1) := by decide +kernel
theorem dX10_is_61 : decode cX10_is 61 = .ok (.getfield 329, 3) := by decide +kernel
theorem dX10_is_64 : decode cX10_is 64 = .ok (.iconst 3, 1) := by decide +kernel
theorem dX10_is_65 : decode cX10_is 65 = .ok (.iadd, 1) := by decide +kernel
theorem dX10_is_66 : decode cX10_is 66 = .ok (.invokevirtual 338, 3) := by decide +kernel
theorem dX10_is_69 : decode cX10_is 69 = .ok (.iload 5, 2) := by decide +kernel
theorem dX10_is_71 : decode cX10_is 71 = .ok (.if_icmp .ne 27, 3) := by decide +kernel
theorem dX10_is_74 : decode cX10_is 74 = .ok (.iload_n 1, 1) := by decide +kernel
theorem dX10_is_75 : decode cX10_is 75 = .ok (.iconst 5, 1) := by decide +kernel
theorem dX10_is_76 : decode cX10_is 76 = .ok (.if_icmp .lt 18, 3) := by decide +kernel
theorem dX10_is_79 : decode cX10_is 79 = .ok (.aload_n 0, 1) := by decide +kernel
theorem dX10_is_80 : decode cX10_is 80 = .ok (.aload_n 0, 1) := by decide +kernel
theorem dX10_is_81 : decode cX10_is 81 = .ok (.getfield 329, 3) := by decide +kernel
theorem dX10_is_84 : decode cX10_is 84 = .ok (.iconst 4, 1) := by decide +kernel
theorem dX10_is_85 : decode cX10_is 85 = .ok (.iadd, 1) := by decide +kernel
theorem dX10_is_86 : decode cX10_is 86 = .ok (.invokevirtual 338, 3) := by decide +kernel
theorem dX10_is_89 : decode cX10_is 89 = .ok (.iload 6, 2) := by decide +kernel
theorem dX10_is_91 : decode cX10_is 91 = .ok (.if_icmp .ne 7, 3) := by decide +kernel
theorem dX10_is_94 : decode cX10_is 94 = .ok (.iconst 1, 1) := by decide +kernel
theorem dX10_is_95 : decode cX10_is 95 = .ok (.goto 4, 3) := by decide +kernel
theorem dX10_is_98 : decode cX10_is 98 = .ok (.iconst 0, 1) := by decide +kernel
theorem dX10_is_99 : decode cX10_is 99 = .ok (.ireturn, 1) := by decide +kernel
theorem dX10_nameNow_0 : decode cX10_nameNow 0 = .ok (.aload_n 0, 1) := by decide +kernel
theorem dX10_nameNow_1 : decode cX10_nameNow 1 = .ok (.iconst 4, 1) := by decide +kernel
theorem dX10_nameNow_2 : decode cX10_nameNow 2 = .ok (.bipush 115, 2) := by decide +kernel
theorem dX10_nameNow_4 : decode cX10_nameNow 4 = .ok (.bipush 105, 2) := by decide +kernel
theorem dX10_nameNow_6 : decode cX10_nameNow 6 = .ok (.bipush 103, 2) := by decide +kernel
theorem dX10_nameNow_8 : decode cX10_nameNow 8 = .ok (.bipush 110, 2) := by decide +kernel
theorem dX10_nameNow_10 : decode cX10_nameNow 10 = .ok (.iconst 0, 1) := by decide +kernel
theorem dX10_nameNow_11 : decode cX10_nameNow 11 = .ok (.invokevirtual 341, 3) := by decide +kernel
theorem dX10_nameNow_14 : decode cX10_nameNow 14 = .ok (.ifCond .eq 5, 3) := by decide +kernel
theorem dX10_nameNow_17 : decode cX10_nameNow 17 = .ok (.iconst 0, 1) := by decide +kernel
theorem dX10_nameNow_18 : decode cX10_nameNow 18 = .ok (.ireturn, 1) := by decide +kernel
theorem dX10_nameNow_19 : decode cX10_nameNow 19 = .ok (.aload_n 0, 1) := by decide +kernel
theorem dX10_nameNow_20 : decode cX10_nameNow 20 = .ok (.iconst 5, 1) := by decide +kernel
theorem dX10_nameNow_21 : decode cX10_nameNow 21 = .ok (.bipush 115, 2) := by decide +kernel
theorem dX10_nameNow_23 : decode cX10_nameNow 23 = .ok (.bipush 111, 2) := by decide +kernel
theorem dX10_nameNow_25 : decode cX10_nameNow 25 = .ok (.bipush 117, 2) := by decide +kernel
theorem dX10_nameNow_27 : decode cX10_nameNow 27 = .ok (.bipush 110, 2) := by decide +kernel
theorem dX10_nameNow_29 : decode cX10_nameNow 29 = .ok (.bipush 100, 2) := by decide +kernel
theorem dX10_nameNow_31 : decode cX10_nameNow 31 = .ok (.invokevirtual 341, 3) := by decide +kernel
theorem dX10_nameNow_34 : decode cX10_nameNow 34 = .ok (.ifCond .eq 5, 3) := by decide +kernel
theorem dX10_nameNow_37 : decode cX10_nameNow 37 = .ok (.iconst 1, 1) := by decide +kernel
theorem dX10_nameNow_38 : decode cX10_nameNow 38 = .ok (.ireturn, 1) := by decide +kernel
theorem dX10_nameNow_39 : decode cX10_nameNow 39 = .ok (.aload_n 0, 1) := by decide +kernel
theorem dX10_nameNow_40 : decode cX10_nameNow 40 = .ok (.iconst 4, 1) := by decide +kernel
theorem dX10_nameNow_41 : decode cX10_nameNow 41 = .ok (.bipush 119, 2) := by decide +kernel
theorem dX10_nameNow_43 : decode cX10_nameNow 43 = .ok (.bipush 111, 2) := by decide +kernel
theorem dX10_nameNow_45 : decode cX10_nameNow 45 = .ok (.bipush 114, 2) := by decide +kernel
theorem dX10_nameNow_47 : decode cX10_nameNow 47 = .ok (.bipush 100, 2) := by decide +kernel
theorem dX10_nameNow_49 : decode cX10_nameNow 49 = .ok (.iconst 0, 1) := by decide +kernel
theorem dX10_nameNow_50 : decode cX10_nameNow 50 = .ok (.invokevirtual 341, 3) := by decide +kernel
theorem dX10_nameNow_53 : decode cX10_nameNow 53 = .ok (.ifCond .eq 5, 3) := by decide +kernel
theorem dX10_nameNow_56 : decode cX10_nameNow 56 = .ok (.iconst 2, 1) := by decide +kernel
theorem dX10_nameNow_57 : decode cX10_nameNow 57 = .ok (.ireturn, 1) := by decide +kernel
theorem dX10_nameNow_58 : decode cX10_nameNow 58 = .ok (.aload_n 0, 1) := by decide +kernel
theorem dX10_nameNow_59 : decode cX10_nameNow 59 = .ok (.iconst 4, 1) := by decide +kernel
theorem dX10_nameNow_60 : decode cX10_nameNow 60 = .ok (.bipush 110, 2) := by decide +kernel
theorem dX10_nameNow_62 : decode cX10_nameNow 62 = .ok (.bipush 97, 2) := by decide +kernel
theorem dX10_nameNow_64 : decode cX10_nameNow 64 = .ok (.bipush 109, 2) := by decide +kernel
theorem dX10_nameNow_66 : decode cX10_nameNow 66 = .ok (.bipush 101, 2) := by decide +kernel
theorem dX10_nameNow_68 : decode cX10_nameNow 68 = .ok (.iconst 0, 1) := by decide +kernel
theorem dX10_nameNow_69 : decode cX10_nameNow 69 = .ok (.invokevirtual 341, 3) := by decide +kernel
theorem dX10_nameNow_72 : decode cX10_nameNow 72 = .ok (.ifCond .eq 5, 3) := by decide +kernel
theorem dX10_nameNow_75 : decode cX10_nameNow 75 = .ok (.iconst 3, 1) := by decide +kernel
theorem dX10_nameNow_76 : decode cX10_nameNow 76 = .ok (.ireturn, 1) := by decide +kernel
theorem dX10_nameNow_77 : decode cX10_nameNow 77 = .ok (.aload_n 0, 1) := by decide +kernel
theorem dX10_nameNow_78 : decode cX10_nameNow 78 = .ok (.bipush 6, 2) := by decide +kernel
theorem dX10_nameNow_80 : decode cX10_nameNow 80 = .ok (.bipush 116, 2) := by decide +kernel
theorem dX10_nameNow_82 : decode cX10_nameNow 82 = .ok (.bipush 111, 2) := by decide +kernel
theorem dX10_nameNow_84 : decode cX10_nameNow 84 = .ok (.bipush 110, 2) := by decide +kernel
theorem dX10_nameNow_86 : decode cX10_nameNow 86 = .ok (.bipush 103, 2) := by decide +kernel
theorem dX10_nameNow_88 : decode cX10_nameNow 88 = .ok (.bipush 117, 2) := by decide +kernel
theorem dX10_nameNow_90 : decode cX10_nameNow 90 = .ok (.invokevirtual 341, 3) := by decide +kernel
theorem dX10_nameNow_93 : decode cX10_nameNow 93 = .ok (.ifCond .eq 20, 3) := by decide +kernel
theorem dX10_nameNow_96 : decode cX10_nameNow 96 = .ok (.aload_n 0, 1) := by decide +kernel
theorem dX10_nameNow_97 : decode cX10_nameNow 97 = .ok (.aload_n 0, 1) := by decide +kernel
theorem dX10_nameNow_98 : decode cX10_nameNow 98 = .ok (.getfield 329, 3) := by decide +kernel
theorem dX10_nameNow_101 : decode cX10_nameNow 101 = .ok (.iconst 5, 1) := by decide +kernel
theorem dX10_nameNow_102 : decode cX10_nameNow 102 = .ok (.iadd, 1) := by decide +kernel
theorem dX10_nameNow_103 : decode cX10_nameNow 103 = .ok (.invokevirtual 338, 3) := by decide +kernel
theorem dX10_nameNow_106 : decode cX10_nameNow 106 = .ok (.bipush 101, 2) := by decide +kernel
theorem dX10_nameNow_108 : decode cX10_nameNow 108 = .ok (.if_icmp .ne 5, 3) := by decide +kernel
theorem dX10_nameNow_111 : decode cX10_nameNow 111 = .ok (.iconst 4, 1) := by decide +kernel
theorem dX10_nameNow_112 : decode cX10_nameNow 112 = .ok (.ireturn, 1) := by decide +kernel
theorem dX10_nameNow_113 : decode cX10_nameNow 113 = .ok (.aload_n 0, 1) := by decide +kernel
theorem dX10_nameNow_114 : decode cX10_nameNow 114 = .ok (.iconst 2, 1) := by decide +kernel
theorem dX10_nameNow_115 : decode cX10_nameNow 115 = .ok (.bipush 111, 2) := by decide +kernel
theorem dX10_nameNow_117 : decode cX10_nameNow 117 = .ok (.bipush 110, 2) := by decide +kernel
theorem dX10_nameNow_119 : decode cX10_nameNow 119 = .ok (.iconst 0, 1) := by decide +kernel
theorem dX10_nameNow_120 : decode cX10_nameNow 120 = .ok (.iconst 0, 1) := by decide +kernel
theorem dX10_nameNow_121 : decode cX10_nameNow 121 = .ok (.iconst 0, 1) := by decide +kernel
theorem dX10_nameNow_122 : decode cX10_nameNow 122 = .ok (.invokevirtual 341, 3) := by decide +kernel
theorem dX10_nameNow_125 : decode cX10_nameNow 125 = .ok (.ifCond .eq 7, 3) := by decide +kernel
theorem dX10_nameNow_128 : decode cX10_nameNow 128 = .ok (.iconst 5, 1) := by decide +kernel
theorem dX10_nameNow_129 : decode cX10_nameNow 129 = .ok (.goto 5, 3) := by decide +kernel
theorem dX10_nameNow_132 : decode cX10_nameNow 132 = .ok (.bipush (-4), 2) := by decide +kernel
theorem dX10_nameNow_134 : decode cX10_nameNow 134 = .ok (.ireturn, 1) := by decide +kernel
theorem dX10_next_0 : decode cX10_next 0 = .ok (.aload_n 0, 1) := by decide +kernel
theorem dX10_next_1 : decode cX10_next 1 = .ok (.getfield 326, 3) := by decide +kernel
theorem dX10_next_4 : decode cX10_next 4 = .ok (.ifCond .le 4, 3) := by decide +kernel
theorem dX10_next_7 : decode cX10_next 7 = .ok (.return_, 1) := by decide +kernel
theorem dX10_next_8 : decode cX10_next 8 = .ok (.aload_n 0, 1) := by decide +kernel
theorem dX10_next_9 : decode cX10_next 9 = .ok (.aload_n 0, 1) := by decide +kernel
theorem dX10_next_10 : decode cX10_next 10 = .ok (.getfield 335, 3) := by decide +kernel
theorem dX10_next_13 : decode cX10_next 13 = .ok (.invokevirtual 338, 3) := by decide +kernel
theorem dX10_next_16 : decode cX10_next 16 = .ok (.bipush 32, 2) := by decide +kernel
theorem dX10_next_18 : decode cX10_next 18 = .ok (.if_icmp .ne 16, 3) := by decide +kernel
theorem dX10_next_21 : decode cX10_next 21 = .ok (.aload_n 0, 1) := by decide +kernel
theorem dX10_next_22 : decode cX10_next 22 = .ok (.dup, 1) := by decide +kernel
theorem dX10_next_23 : decode cX10_next 23 = .ok (.getfield 335, 3) := by decide +kernel
theorem dX10_next_26 : decode cX10_next 26 = .ok (.iconst 1, 1) := by decide +kernel
theorem dX10_next_27 : decode cX10_next 27 = .ok (.iadd, 1) := by decide +kernel
theorem dX10_next_28 : decode cX10_next 28 = .ok (.putfield 335, 3) := by decide +kernel
theorem dX10_next_31 : decode cX10_next 31 = .ok (.goto (-23), 3) := by decide +kernel
theorem dX10_next_34 : decode cX10_next 34 = .ok (.aload_n 0, 1) := by decide +kernel
theorem dX10_next_35 : decode cX10_next 35 = .ok (.aload_n 0, 1) := by decide +kernel
theorem dX10_next_36 : decode cX10_next 36 = .ok (.getfield 335, 3) := by decide +kernel
theorem dX10_next_39 : decode cX10_next 39 = .ok (.putfield 329, 3) := by decide +kernel
theorem dX10_next_42 : decode cX10_next 42 = .ok (.aload_n 0, 1) := by decide +kernel
theorem dX10_next_43 : decode cX10_next 43 = .ok (.aload_n 0, 1) := by decide +kernel
theorem dX10_next_44 : decode cX10_next 44 = .ok (.getfield 335, 3) := by decide +kernel
theorem dX10_next_47 : decode cX10_next 47 = .ok (.invokevirtual 338, 3) := by decide +kernel
theorem dX10_next_50 : decode cX10_next 50 = .ok (.istore_n 1, 1) := by decide +kernel
theorem dX10_next_51 : decode cX10_next 51 = .ok (.iload_n 1, 1) := by decide +kernel
theorem dX10_next_52 : decode cX10_next 52 = .ok (.ifCond .ge 11, 3) := by decide +kernel
theorem dX10_next_55 : decode cX10_next 55 = .ok (.aload_n 0, 1) := by decide +kernel
theorem dX10_next_56 : decode cX10_next 56 = .ok (.iconst 0, 1) := by decide +kernel
theorem dX10_next_57 : decode cX10_next 57 = .ok (.putfield 344, 3) := by decide +kernel
theorem dX10_next_60 : decode cX10_next 60 = .ok (.goto 260, 3) := by decide +kernel
theorem dX10_next_63 : decode cX10_next 63 = .ok (.iload_n 1, 1) := by decide +kernel
theorem dX10_next_64 : decode cX10_next 64 = .ok (.i2l, 1) := by decide +kernel
theorem dX10_next_65 : decode cX10_next 65 = .ok (.ldc2_w 347, 3) := by decide +kernel
theorem dX10_next_68 : decode cX10_next 68 = .ok (.ldc2_w 349, 3) := by decide +kernel
theorem dX10_next_71 : decode cX10_next 71 = .ok (.invokestatic 138, 3) := by decide +kernel
theorem dX10_next_74 : decode cX10_next 74 = .ok (.ifCond .eq 72, 3) := by decide +kernel
theorem dX10_next_77 : decode cX10_next 77 = .ok (.aload_n 0, 1) := by decide +kernel
theorem dX10_next_78 : decode cX10_next 78 = .ok (.iconst 1, 1) := by decide +kernel
theorem dX10_next_79 : decode cX10_next 79 = .ok (.putfield 344, 3) := by decide +kernel
theorem dX10_next_82 : decode cX10_next 82 = .ok (.aload_n 0, 1) := by decide +kernel
theorem dX10_next_83 : decode cX10_next 83 = .ok (.aload_n 0, 1) := by decide +kernel
theorem dX10_next_84 : decode cX10_next 84 = .ok (.getfield 335, 3) := by decide +kernel
theorem dX10_next_87 : decode cX10_next 87 = .ok (.invokevirtual 338, 3) := by decide +kernel
theorem dX10_next_90 : decode cX10_next 90 = .ok (.i2l, 1) := by decide +kernel
theorem dX10_next_91 : decode cX10_next 91 = .ok (.ldc2_w 347, 3) := by decide +kernel
theorem dX10_next_94 : decode cX10_next 94 = .ok (.ldc2_w 349, 3) := by decide +kernel
theorem dX10_next_97 : decode cX10_next 97 = .ok (.invokestatic 138, 3) := by decide +kernel
theorem dX10_next_100 : decode cX10_next 100 = .ok (.ifCond .eq 16, 3) := by decide +kernel
theorem dX10_next_103 : decode cX10_next 103 = .ok (.aload_n 0, 1) := by decide +kernel
theorem dX10_next_104 : decode cX10_next 104 = .ok (.dup, 1) := by decide +kernel
theorem dX10_next_105 : decode cX10_next 105 = .ok (.getfield 335, 3) := by decide +kernel
theorem dX10_next_108 : decode cX10_next 108 = .ok (.iconst 1, 1) := by decide +kernel
theorem dX10_next_109 : decode cX10_next 109 = .ok (.iadd, 1) := by decide +kernel
theorem dX10_next_110 : decode cX10_next 110 = .ok (.putfield 335, 3) := by decide +kernel
theorem dX10_next_113 : decode cX10_next 113 = .ok (.goto (-31), 3) := by decide +kernel
theorem dX10_next_116 : decode cX10_next 116 = .ok (.aload_n 0, 1) := by decide +kernel
theorem dX10_next_117 : decode cX10_next 117 = .ok (.aload_n 0, 1) := by decide +kernel
theorem dX10_next_118 : decode cX10_next 118 = .ok (.invokevirtual 351, 3) := by decide +kernel
theorem dX10_next_121 : decode cX10_next 121 = .ok (.putfield 354, 3) := by decide +kernel
theorem dX10_next_124 : decode cX10_next 124 = .ok (.aload_n 0, 1) := by decide +kernel
theorem dX10_next_125 : decode cX10_next 125 = .ok (.aload_n 0, 1) := by decide +kernel
theorem dX10_next_126 : decode cX10_next 126 = .ok (.getfield 354, 3) := by decide +kernel
theorem dX10_next_129 : decode cX10_next 129 = .ok (.bipush (-4), 2) := by decide +kernel
theorem dX10_next_131 : decode cX10_next 131 = .ok (.if_icmp .eq 7, 3) := by decide +kernel
theorem dX10_next_134 : decode cX10_next 134 = .ok (.iconst 1, 1) := by decide +kernel
theorem dX10_next_135 : decode cX10_next 135 = .ok (.goto 4, 3) := by decide +kernel
theorem dX10_next_138 : decode cX10_next 138 = .ok (.iconst 0, 1) := by decide +kernel
theorem dX10_next_139 : decode cX10_next 139 = .ok (.iconst 1, 1) := by decide +kernel
theorem dX10_next_140 : decode cX10_next 140 = .ok (.invokevirtual 357, 3) := by decide +kernel
theorem dX10_next_143 : decode cX10_next 143 = .ok (.goto 177, 3) := by decide +kernel
theorem dX10_next_146 : decode cX10_next 146 = .ok (.iload_n 1, 1) := by decide +kernel
theorem dX10_next_147 : decode cX10_next 147 = .ok (.i2l, 1) := by decide +kernel
theorem dX10_next_148 : decode cX10_next 148 = .ok (.ldc2_w 361, 3) := by decide +kernel
theorem dX10_next_151 : decode cX10_next 151 = .ok (.ldc2_w 363, 3) := by decide +kernel
theorem dX10_next_154 : decode cX10_next 154 = .ok (.invokestatic 138, 3) := by decide +kernel
theorem dX10_next_157 : decode cX10_next 157 = .ok (.ifCond .eq 116, 3) := by decide +kernel
theorem dX10_next_160 : decode cX10_next 160 = .ok (.aload_n 0, 1) := by decide +kernel
theorem dX10_next_161 : decode cX10_next 161 = .ok (.iconst 2, 1) := by decide +kernel
theorem dX10_next_162 : decode cX10_next 162 = .ok (.putfield 344, 3) := by decide +kernel
theorem dX10_next_165 : decode cX10_next 165 = .ok (.aload_n 0, 1) := by decide +kernel
theorem dX10_next_166 : decode cX10_next 166 = .ok (.iconst 0, 1) := by decide +kernel
theorem dX10_next_167 : decode cX10_next 167 = .ok (.putfield 354, 3) := by decide +kernel
theorem dX10_next_170 : decode cX10_next 170 = .ok (.aload_n 0, 1) := by decide +kernel
theorem dX10_next_171 : decode cX10_next 171 = .ok (.aload_n 0, 1) := by decide +kernel
theorem dX10_next_172 : decode cX10_next 172 = .ok (.getfield 335, 3) := by decide +kernel
theorem dX10_next_175 : decode cX10_next 175 = .ok (.invokevirtual 338, 3) := by decide +kernel
theorem dX10_next_178 : decode cX10_next 178 = .ok (.i2l, 1) := by decide +kernel
theorem dX10_next_179 : decode cX10_next 179 = .ok (.ldc2_w 361, 3) := by decide +kernel
theorem dX10_next_182 : decode cX10_next 182 = .ok (.ldc2_w 363, 3) := by decide +kernel
theorem dX10_next_185 : decode cX10_next 185 = .ok (.invokestatic 138, 3) := by decide +kernel
theorem dX10_next_188 : decode cX10_next 188 = .ok (.ifCond .eq 59, 3) := by decide +kernel
theorem dX10_next_191 : decode cX10_next 191 = .ok (.aload_n 0, 1) := by decide +kernel
theorem dX10_next_192 : decode cX10_next 192 = .ok (.aload_n 0, 1) := by decide +kernel
theorem dX10_next_193 : decode cX10_next 193 = .ok (.getfield 335, 3) := by decide +kernel
theorem dX10_next_196 : decode cX10_next 196 = .ok (.aload_n 0, 1) := by decide +kernel
theorem dX10_next_197 : decode cX10_next 197 = .ok (.getfield 329, 3) := by decide +kernel
theorem dX10_next_200 : decode cX10_next 200 = .ok (.isub, 1) := by decide +kernel
theorem dX10_next_201 : decode cX10_next 201 = .ok (.iconst 2, 1) := by decide +kernel
theorem dX10_next_202 : decode cX10_next 202 = .ok (.if_icmp .ge 25, 3) := by decide +kernel
theorem dX10_next_205 : decode cX10_next 205 = .ok (.bipush 10, 2) := by decide +kernel
theorem dX10_next_207 : decode cX10_next 207 = .ok (.aload_n 0, 1) := by decide +kernel
theorem dX10_next_208 : decode cX10_next 208 = .ok (.getfield 354, 3) := by decide +kernel
theorem dX10_next_211 : decode cX10_next 211 = .ok (.imul, 1) := by decide +kernel
theorem dX10_next_212 : decode cX10_next 212 = .ok (.aload_n 0, 1) := by decide +kernel
theorem dX10_next_213 : decode cX10_next 213 = .ok (.aload_n 0, 1) := by decide +kernel
theorem dX10_next_214 : decode cX10_next 214 = .ok (.getfield 335, 3) := by decide +kernel
theorem dX10_next_217 : decode cX10_next 217 = .ok (.invokevirtual 338, 3) := by decide +kernel
theorem dX10_next_220 : decode cX10_next 220 = .ok (.iadd, 1) := by decide +kernel
theorem dX10_next_221 : decode cX10_next 221 = .ok (.bipush 48, 2) := by decide +kernel
theorem dX10_next_223 : decode cX10_next 223 = .ok (.isub, 1) := by decide +kernel
theorem dX10_next_224 : decode cX10_next 224 = .ok (.goto 7, 3) := by decide +kernel
theorem dX10_next_227 : decode cX10_next 227 = .ok (.aload_n 0, 1) := by decide +kernel
theorem dX10_next_228 : decode cX10_next 228 = .ok (.getfield 354, 3) := by decide +kernel
theorem dX10_next_231 : decode cX10_next 231 = .ok (.putfield 354, 3) := by decide +kernel
theorem dX10_next_234 : decode cX10_next 234 = .ok (.aload_n 0, 1) := by decide +kernel
theorem dX10_next_235 : decode cX10_next 235 = .ok (.dup, 1) := by decide +kernel
theorem dX10_next_236 : decode cX10_next 236 = .ok (.getfield 335, 3) := by decide +kernel
theorem dX10_next_239 : decode cX10_next 239 = .ok (.iconst 1, 1) := by decide +kernel
theorem dX10_next_240 : decode cX10_next 240 = .ok (.iadd, 1) := by decide +kernel
theorem dX10_next_241 : decode cX10_next 241 = .ok (.putfield 335, 3) := by decide +kernel
theorem dX10_next_244 : decode cX10_next 244 = .ok (.goto (-74), 3) := by decide +kernel
theorem dX10_next_247 : decode cX10_next 247 = .ok (.aload_n 0, 1) := by decide +kernel
theorem dX10_next_248 : decode cX10_next 248 = .ok (.aload_n 0, 1) := by decide +kernel
theorem dX10_next_249 : decode cX10_next 249 = .ok (.getfield 335, 3) := by decide +kernel
theorem dX10_next_252 : decode cX10_next 252 = .ok (.aload_n 0, 1) := by decide +kernel
theorem dX10_next_253 : decode cX10_next 253 = .ok (.getfield 329, 3) := by decide +kernel
theorem dX10_next_256 : decode cX10_next 256 = .ok (.isub, 1) := by decide +kernel
theorem dX10_next_257 : decode cX10_next 257 = .ok (.iconst 2, 1) := by decide +kernel
theorem dX10_next_258 : decode cX10_next 258 = .ok (.if_icmp .gt 7, 3) := by decide +kernel
theorem dX10_next_261 : decode cX10_next 261 = .ok (.iconst 1, 1) := by decide +kernel
theorem dX10_next_262 : decode cX10_next 262 = .ok (.goto 4, 3) := by decide +kernel
theorem dX10_next_265 : decode cX10_next 265 = .ok (.iconst 0, 1) := by decide +kernel
theorem dX10_next_266 : decode cX10_next 266 = .ok (.iconst 1, 1) := by decide +kernel
theorem dX10_next_267 : decode cX10_next 267 = .ok (.invokevirtual 357, 3) := by decide +kernel
theorem dX10_next_270 : decode cX10_next 270 = .ok (.goto 50, 3) := by decide +kernel
theorem dX10_next_273 : decode cX10_next 273 = .ok (.aload_n 0, 1) := by decide +kernel
theorem dX10_next_274 : decode cX10_next 274 = .ok (.iload_n 1, 1) := by decide +kernel
theorem dX10_next_275 : decode cX10_next 275 = .ok (.bipush 59, 2) := by decide +kernel
theorem dX10_next_277 : decode cX10_next 277 = .ok (.if_icmp .ne 7, 3) := by decide +kernel
theorem dX10_next_280 : decode cX10_next 280 = .ok (.iconst 3, 1) := by decide +kernel
theorem dX10_next_281 : decode cX10_next 281 = .ok (.goto 4, 3) := by decide +kernel
theorem dX10_next_284 : decode cX10_next 284 = .ok (.iconst 4, 1) := by decide +kernel
theorem dX10_next_285 : decode cX10_next 285 = .ok (.putfield 344, 3) := by decide +kernel
theorem dX10_next_288 : decode cX10_next 288 = .ok (.aload_n 0, 1) := by decide +kernel
theorem dX10_next_289 : decode cX10_next 289 = .ok (.iload_n 1, 1) := by decide +kernel
theorem dX10_next_290 : decode cX10_next 290 = .ok (.bipush 59, 2) := by decide +kernel
theorem dX10_next_292 : decode cX10_next 292 = .ok (.if_icmp .eq 9, 3) := by decide +kernel
theorem dX10_next_295 : decode cX10_next 295 = .ok (.iload_n 1, 1) := by decide +kernel
theorem dX10_next_296 : decode cX10_next 296 = .ok (.bipush 44, 2) := by decide +kernel
theorem dX10_next_298 : decode cX10_next 298 = .ok (.if_icmp .ne 7, 3) := by decide +kernel
theorem dX10_next_301 : decode cX10_next 301 = .ok (.iconst 1, 1) := by decide +kernel
theorem dX10_next_302 : decode cX10_next 302 = .ok (.goto 4, 3) := by decide +kernel
theorem dX10_next_305 : decode cX10_next 305 = .ok (.iconst 0, 1) := by decide +kernel
theorem dX10_next_306 : decode cX10_next 306 = .ok (.iconst 1, 1) := by decide +kernel
theorem dX10_next_307 : decode cX10_next 307 = .ok (.invokevirtual 357, 3) := by decide +kernel
theorem dX10_next_310 : decode cX10_next 310 = .ok (.aload_n 0, 1) := by decide +kernel
theorem dX10_next_311 : decode cX10_next 311 = .ok (.dup, 1) := by decide +kernel
theorem dX10_next_312 : decode cX10_next 312 = .ok (.getfield 335, 3) := by decide +kernel
theorem dX10_next_315 : decode cX10_next 315 = .ok (.iconst 1, 1) := by decide +kernel
theorem dX10_next_316 : decode cX10_next 316 = .ok (.iadd, 1) := by decide +kernel
theorem dX10_next_317 : decode cX10_next 317 = .ok (.putfield 335, 3) := by decide +kernel
theorem dX10_next_320 : decode cX10_next 320 = .ok (.return_, 1) := by decide +kernel
theorem dX10_readOn_0 : decode cX10_readOn 0 = .ok (.iconst 0, 1) := by decide +kernel
theorem dX10_readOn_1 : decode cX10_readOn 1 = .ok (.istore_n 2, 1) := by decide +kernel
theorem dX10_readOn_2 : decode cX10_readOn 2 = .ok (.iconst 1, 1) := by decide +kernel
theorem dX10_readOn_3 : decode cX10_readOn 3 = .ok (.istore_n 3, 1) := by decide +kernel
theorem dX10_readOn_4 : decode cX10_readOn 4 = .ok (.iload_n 3, 1) := by decide +kernel
theorem dX10_readOn_5 : decode cX10_readOn 5 = .ok (.ifCond .eq 123, 3) := by decide +kernel
theorem dX10_readOn_8 : decode cX10_readOn 8 = .ok (.aload_n 0, 1) := by decide +kernel
theorem dX10_readOn_9 : decode cX10_readOn 9 = .ok (.getfield 326, 3) := by decide +kernel
theorem dX10_readOn_12 : decode cX10_readOn 12 = .ok (.ifCond .ne 116, 3) := by decide +kernel
theorem dX10_readOn_15 : decode cX10_readOn 15 = .ok (.aload_n 0, 1) := by decide +kernel
theorem dX10_readOn_16 : decode cX10_readOn 16 = .ok (.invokevirtual 365, 3) := by decide +kernel
theorem dX10_readOn_19 : decode cX10_readOn 19 = .ok (.aload_n 0, 1) := by decide +kernel
theorem dX10_readOn_20 : decode cX10_readOn 20 = .ok (.aload_n 0, 1) := by decide +kernel
theorem dX10_readOn_21 : decode cX10_readOn 21 = .ok (.getfield 344, 3) := by decide +kernel
theorem dX10_readOn_24 : decode cX10_readOn 24 = .ok (.iconst 2, 1) := by decide +kernel
theorem dX10_readOn_25 : decode cX10_readOn 25 = .ok (.if_icmp .ne 7, 3) := by decide +kernel
theorem dX10_readOn_28 : decode cX10_readOn 28 = .ok (.iconst 1, 1) := by decide +kernel
theorem dX10_readOn_29 : decode cX10_readOn 29 = .ok (.goto 4, 3) := by decide +kernel
theorem dX10_readOn_32 : decode cX10_readOn 32 = .ok (.iconst 0, 1) := by decide +kernel
theorem dX10_readOn_33 : decode cX10_readOn 33 = .ok (.iconst 2, 1) := by decide +kernel
theorem dX10_readOn_34 : decode cX10_readOn 34 = .ok (.invokevirtual 357, 3) := by decide +kernel
theorem dX10_readOn_37 : decode cX10_readOn 37 = .ok (.aload_n 0, 1) := by decide +kernel
theorem dX10_readOn_38 : decode cX10_readOn 38 = .ok (.getfield 326, 3) := by decide +kernel
theorem dX10_readOn_41 : decode cX10_readOn 41 = .ok (.ifCond .ne 46, 3) := by decide +kernel
theorem dX10_readOn_44 : decode cX10_readOn 44 = .ok (.aload_n 0, 1) := by decide +kernel
theorem dX10_readOn_45 : decode cX10_readOn 45 = .ok (.aload_n 0, 1) := by decide +kernel
theorem dX10_readOn_46 : decode cX10_readOn 46 = .ok (.getfield 354, 3) := by decide +kernel
theorem dX10_readOn_49 : decode cX10_readOn 49 = .ok (.iload_n 1, 1) := by decide +kernel
theorem dX10_readOn_50 : decode cX10_readOn 50 = .ok (.if_icmp .ge 32, 3) := by decide +kernel
theorem dX10_readOn_53 : decode cX10_readOn 53 = .ok (.aload_n 0, 1) := by decide +kernel
theorem dX10_readOn_54 : decode cX10_readOn 54 = .ok (.getfield 117, 3) := by decide +kernel
theorem dX10_readOn_57 : decode cX10_readOn 57 = .ok (.aload_n 0, 1) := by decide +kernel
theorem dX10_readOn_58 : decode cX10_readOn 58 = .ok (.getfield 354, 3) := by decide +kernel
theorem dX10_readOn_61 : decode cX10_readOn 61 = .ok (.iaload, 1) := by decide +kernel
theorem dX10_readOn_62 : decode cX10_readOn 62 = .ok (.bipush (-4), 2) := by decide +kernel
theorem dX10_readOn_64 : decode cX10_readOn 64 = .ok (.if_icmp .ne 18, 3) := by decide +kernel
theorem dX10_readOn_67 : decode cX10_readOn 67 = .ok (.iload_n 2, 1) := by decide +kernel
theorem dX10_readOn_68 : decode cX10_readOn 68 = .ok (.aload_n 0, 1) := by decide +kernel
theorem dX10_readOn_69 : decode cX10_readOn 69 = .ok (.getfield 354, 3) := by decide +kernel
theorem dX10_readOn_72 : decode cX10_readOn 72 = .ok (.ishr, 1) := by decide +kernel
theorem dX10_readOn_73 : decode cX10_readOn 73 = .ok (.iconst 1, 1) := by decide +kernel
theorem dX10_readOn_74 : decode cX10_readOn 74 = .ok (.iand, 1) := by decide +kernel
theorem dX10_readOn_75 : decode cX10_readOn 75 = .ok (.ifCond .ne 7, 3) := by decide +kernel
theorem dX10_readOn_78 : decode cX10_readOn 78 = .ok (.iconst 1, 1) := by decide +kernel
theorem dX10_readOn_79 : decode cX10_readOn 79 = .ok (.goto 4, 3) := by decide +kernel
theorem dX10_readOn_82 : decode cX10_readOn 82 = .ok (.iconst 0, 1) := by decide +kernel
theorem dX10_readOn_83 : decode cX10_readOn 83 = .ok (.iconst 3, 1) := by decide +kernel
theorem dX10_readOn_84 : decode cX10_readOn 84 = .ok (.invokevirtual 357, 3) := by decide +kernel
theorem dX10_readOn_87 : decode cX10_readOn 87 = .ok (.iload_n 2, 1) := by decide +kernel
theorem dX10_readOn_88 : decode cX10_readOn 88 = .ok (.aload_n 0, 1) := by decide +kernel
theorem dX10_readOn_89 : decode cX10_readOn 89 = .ok (.getfield 326, 3) := by decide +kernel
theorem dX10_readOn_92 : decode cX10_readOn 92 = .ok (.ifCond .ne 12, 3) := by decide +kernel
theorem dX10_readOn_95 : decode cX10_readOn 95 = .ok (.iconst 1, 1) := by decide +kernel
theorem dX10_readOn_96 : decode cX10_readOn 96 = .ok (.aload_n 0, 1) := by decide +kernel
theorem dX10_readOn_97 : decode cX10_readOn 97 = .ok (.getfield 354, 3) := by decide +kernel
theorem dX10_readOn_100 : decode cX10_readOn 100 = .ok (.ishl, 1) := by decide +kernel
theorem dX10_readOn_101 : decode cX10_readOn 101 = .ok (.goto 4, 3) := by decide +kernel
theorem dX10_readOn_104 : decode cX10_readOn 104 = .ok (.iconst 0, 1) := by decide +kernel
theorem dX10_readOn_105 : decode cX10_readOn 105 = .ok (.ior, 1) := by decide +kernel
theorem dX10_readOn_106 : decode cX10_readOn 106 = .ok (.istore_n 2, 1) := by decide +kernel
theorem dX10_readOn_107 : decode cX10_readOn 107 = .ok (.aload_n 0, 1) := by decide +kernel
theorem dX10_readOn_108 : decode cX10_readOn 108 = .ok (.invokevirtual 365, 3) := by decide +kernel
theorem dX10_readOn_111 : decode cX10_readOn 111 = .ok (.aload_n 0, 1) := by decide +kernel
theorem dX10_readOn_112 : decode cX10_readOn 112 = .ok (.getfield 344, 3) := by decide +kernel
theorem dX10_readOn_115 : decode cX10_readOn 115 = .ok (.iconst 4, 1) := by decide +kernel
theorem dX10_readOn_116 : decode cX10_readOn 116 = .ok (.if_icmp .ne 7, 3) := by decide +kernel
theorem dX10_readOn_119 : decode cX10_readOn 119 = .ok (.iconst 1, 1) := by decide +kernel
theorem dX10_readOn_120 : decode cX10_readOn 120 = .ok (.goto 4, 3) := by decide +kernel
theorem dX10_readOn_123 : decode cX10_readOn 123 = .ok (.iconst 0, 1) := by decide +kernel
theorem dX10_readOn_124 : decode cX10_readOn 124 = .ok (.istore_n 3, 1) := by decide +kernel
theorem dX10_readOn_125 : decode cX10_readOn 125 = .ok (.goto (-121), 3) := by decide +kernel
theorem dX10_readOn_128 : decode cX10_readOn 128 = .ok (.iload_n 2, 1) := by decide +kernel
theorem dX10_readOn_129 : decode cX10_readOn 129 = .ok (.ireturn, 1) := by decide +kernel
theorem dX10_readClaim_0 : decode cX10_readClaim 0 = .ok (.aload_n 0, 1) := by decide +kernel
theorem dX10_readClaim_1 : decode cX10_readClaim 1 = .ok (.aload_n 0, 1) := by decide +kernel
theorem dX10_readClaim_2 : decode cX10_readClaim 2 = .ok (.getfield 344, 3) := by decide +kernel
theorem dX10_readClaim_5 : decode cX10_readClaim 5 = .ok (.iconst 1, 1) := by decide +kernel
theorem dX10_readClaim_6 : decode cX10_readClaim 6 = .ok (.if_icmp .ne 15, 3) := by decide +kernel
theorem dX10_readClaim_9 : decode cX10_readClaim 9 = .ok (.aload_n 0, 1) := by decide +kernel
theorem dX10_readClaim_10 : decode cX10_readClaim 10 = .ok (.getfield 354, 3) := by decide +kernel
theorem dX10_readClaim_13 : decode cX10_readClaim 13 = .ok (.iconst 5, 1) := by decide +kernel
theorem dX10_readClaim_14 : decode cX10_readClaim 14 = .ok (.if_icmp .ge 7, 3) := by decide +kernel
theorem dX10_readClaim_17 : decode cX10_readClaim 17 = .ok (.iconst 1, 1) := by decide +kernel
theorem dX10_readClaim_18 : decode cX10_readClaim 18 = .ok (.goto 4, 3) := by decide +kernel
theorem dX10_readClaim_21 : decode cX10_readClaim 21 = .ok (.iconst 0, 1) := by decide +kernel
theorem dX10_readClaim_22 : decode cX10_readClaim 22 = .ok (.iconst 2, 1) := by decide +kernel
theorem dX10_readClaim_23 : decode cX10_readClaim 23 = .ok (.invokevirtual 357, 3) := by decide +kernel
theorem dX10_readClaim_26 : decode cX10_readClaim 26 = .ok (.aload_n 0, 1) := by decide +kernel
theorem dX10_readClaim_27 : decode cX10_readClaim 27 = .ok (.iload_n 1, 1) := by decide +kernel
theorem dX10_readClaim_28 : decode cX10_readClaim 28 = .ok (.bipush 20, 2) := by decide +kernel
theorem dX10_readClaim_30 : decode cX10_readClaim 30 = .ok (.if_icmp .ge 7, 3) := by decide +kernel
theorem dX10_readClaim_33 : decode cX10_readClaim 33 = .ok (.iconst 1, 1) := by decide +kernel
theorem dX10_readClaim_34 : decode cX10_readClaim 34 = .ok (.goto 4, 3) := by decide +kernel
theorem dX10_readClaim_37 : decode cX10_readClaim 37 = .ok (.iconst 0, 1) := by decide +kernel
theorem dX10_readClaim_38 : decode cX10_readClaim 38 = .ok (.iconst 5, 1) := by decide +kernel
theorem dX10_readClaim_39 : decode cX10_readClaim 39 = .ok (.invokevirtual 357, 3) := by decide +kernel
theorem dX10_readClaim_42 : decode cX10_readClaim 42 = .ok (.aload_n 0, 1) := by decide +kernel
theorem dX10_readClaim_43 : decode cX10_readClaim 43 = .ok (.getfield 354, 3) := by decide +kernel
theorem dX10_readClaim_46 : decode cX10_readClaim 46 = .ok (.istore_n 2, 1) := by decide +kernel
theorem dX10_readClaim_47 : decode cX10_readClaim 47 = .ok (.aload_n 0, 1) := by decide +kernel
theorem dX10_readClaim_48 : decode cX10_readClaim 48 = .ok (.invokevirtual 365, 3) := by decide +kernel
theorem dX10_readClaim_51 : decode cX10_readClaim 51 = .ok (.aload_n 0, 1) := by decide +kernel
theorem dX10_readClaim_52 : decode cX10_readClaim 52 = .ok (.aload_n 0, 1) := by decide +kernel
theorem dX10_readClaim_53 : decode cX10_readClaim 53 = .ok (.getfield 344, 3) := by decide +kernel
theorem dX10_readClaim_56 : decode cX10_readClaim 56 = .ok (.iconst 2, 1) := by decide +kernel
theorem dX10_readClaim_57 : decode cX10_readClaim 57 = .ok (.if_icmp .ne 7, 3) := by decide +kernel
theorem dX10_readClaim_60 : decode cX10_readClaim 60 = .ok (.iconst 1, 1) := by decide +kernel
theorem dX10_readClaim_61 : decode cX10_readClaim 61 = .ok (.goto 4, 3) := by decide +kernel
theorem dX10_readClaim_64 : decode cX10_readClaim 64 = .ok (.iconst 0, 1) := by decide +kernel
theorem dX10_readClaim_65 : decode cX10_readClaim 65 = .ok (.iconst 2, 1) := by decide +kernel
theorem dX10_readClaim_66 : decode cX10_readClaim 66 = .ok (.invokevirtual 357, 3) := by decide +kernel
theorem dX10_readClaim_69 : decode cX10_readClaim 69 = .ok (.aload_n 0, 1) := by decide +kernel
theorem dX10_readClaim_70 : decode cX10_readClaim 70 = .ok (.getfield 354, 3) := by decide +kernel
theorem dX10_readClaim_73 : decode cX10_readClaim 73 = .ok (.istore_n 3, 1) := by decide +kernel
theorem dX10_readClaim_74 : decode cX10_readClaim 74 = .ok (.iconst 0, 1) := by decide +kernel
theorem dX10_readClaim_75 : decode cX10_readClaim 75 = .ok (.istore 4, 2) := by decide +kernel
theorem dX10_readClaim_77 : decode cX10_readClaim 77 = .ok (.iload 4, 2) := by decide +kernel
theorem dX10_readClaim_79 : decode cX10_readClaim 79 = .ok (.iload_n 1, 1) := by decide +kernel
theorem dX10_readClaim_80 : decode cX10_readClaim 80 = .ok (.if_icmp .ge 60, 3) := by decide +kernel
theorem dX10_readClaim_83 : decode cX10_readClaim 83 = .ok (.aload_n 0, 1) := by decide +kernel
theorem dX10_readClaim_84 : decode cX10_readClaim 84 = .ok (.getfield 326, 3) := by decide +kernel
theorem dX10_readClaim_87 : decode cX10_readClaim 87 = .ok (.ifCond .ne 53, 3) := by decide +kernel
theorem dX10_readClaim_90 : decode cX10_readClaim 90 = .ok (.aload_n 0, 1) := by decide +kernel
theorem dX10_readClaim_91 : decode cX10_readClaim 91 = .ok (.aload_n 0, 1) := by decide +kernel
theorem dX10_readClaim_92 : decode cX10_readClaim 92 = .ok (.getfield 108, 3) := by decide +kernel
theorem dX10_readClaim_95 : decode cX10_readClaim 95 = .ok (.iload 4, 2) := by decide +kernel
theorem dX10_readClaim_97 : decode cX10_readClaim 97 = .ok (.iaload, 1) := by decide +kernel
theorem dX10_readClaim_98 : decode cX10_readClaim 98 = .ok (.iload_n 2, 1) := by decide +kernel
theorem dX10_readClaim_99 : decode cX10_readClaim 99 = .ok (.if_icmp .ne 26, 3) := by decide +kernel
theorem dX10_readClaim_102 : decode cX10_readClaim 102 = .ok (.aload_n 0, 1) := by decide +kernel
theorem dX10_readClaim_103 : decode cX10_readClaim 103 = .ok (.getfield 111, 3) := by decide +kernel
theorem dX10_readClaim_106 : decode cX10_readClaim 106 = .ok (.iload 4, 2) := by decide +kernel
theorem dX10_readClaim_108 : decode cX10_readClaim 108 = .ok (.iaload, 1) := by decide +kernel
theorem dX10_readClaim_109 : decode cX10_readClaim 109 = .ok (.iload_n 3, 1) := by decide +kernel
theorem dX10_readClaim_110 : decode cX10_readClaim 110 = .ok (.if_icmp .ne 15, 3) := by decide +kernel
theorem dX10_readClaim_113 : decode cX10_readClaim 113 = .ok (.aload_n 0, 1) := by decide +kernel
theorem dX10_readClaim_114 : decode cX10_readClaim 114 = .ok (.getfield 117, 3) := by decide +kernel
theorem dX10_readClaim_117 : decode cX10_readClaim 117 = .ok (.iload 4, 2) := by decide +kernel
theorem dX10_readClaim_119 : decode cX10_readClaim 119 = .ok (.iaload, 1) := by decide +kernel
theorem dX10_readClaim_120 : decode cX10_readClaim 120 = .ok (.bipush (-4), 2) := by decide +kernel
theorem dX10_readClaim_122 : decode cX10_readClaim 122 = .ok (.if_icmp .eq 7, 3) := by decide +kernel
theorem dX10_readClaim_125 : decode cX10_readClaim 125 = .ok (.iconst 1, 1) := by decide +kernel
theorem dX10_readClaim_126 : decode cX10_readClaim 126 = .ok (.goto 4, 3) := by decide +kernel
theorem dX10_readClaim_129 : decode cX10_readClaim 129 = .ok (.iconst 0, 1) := by decide +kernel
theorem dX10_readClaim_130 : decode cX10_readClaim 130 = .ok (.iconst 4, 1) := by decide +kernel
theorem dX10_readClaim_131 : decode cX10_readClaim 131 = .ok (.invokevirtual 357, 3) := by decide +kernel
theorem dX10_readClaim_134 : decode cX10_readClaim 134 = .ok (.iinc 4 1, 3) := by decide +kernel
theorem dX10_readClaim_137 : decode cX10_readClaim 137 = .ok (.goto (-60), 3) := by decide +kernel
theorem dX10_readClaim_140 : decode cX10_readClaim 140 = .ok (.aload_n 0, 1) := by decide +kernel
theorem dX10_readClaim_141 : decode cX10_readClaim 141 = .ok (.invokevirtual 365, 3) := by decide +kernel
theorem dX10_readClaim_144 : decode cX10_readClaim 144 = .ok (.iconst 0, 1) := by decide +kernel
theorem dX10_readClaim_145 : decode cX10_readClaim 145 = .ok (.istore 4, 2) := by decide +kernel
theorem dX10_readClaim_147 : decode cX10_readClaim 147 = .ok (.aload_n 0, 1) := by decide +kernel
theorem dX10_readClaim_148 : decode cX10_readClaim 148 = .ok (.getfield 326, 3) := by decide +kernel
theorem dX10_readClaim_151 : decode cX10_readClaim 151 = .ok (.ifCond .ne 26, 3) := by decide +kernel
theorem dX10_readClaim_154 : decode cX10_readClaim 154 = .ok (.aload_n 0, 1) := by decide +kernel
theorem dX10_readClaim_155 : decode cX10_readClaim 155 = .ok (.getfield 344, 3) := by decide +kernel
theorem dX10_readClaim_158 : decode cX10_readClaim 158 = .ok (.iconst 1, 1) := by decide +kernel
theorem dX10_readClaim_159 : decode cX10_readClaim 159 = .ok (.if_icmp .ne 18, 3) := by decide +kernel
theorem dX10_readClaim_162 : decode cX10_readClaim 162 = .ok (.aload_n 0, 1) := by decide +kernel
theorem dX10_readClaim_163 : decode cX10_readClaim 163 = .ok (.getfield 354, 3) := by decide +kernel
theorem dX10_readClaim_166 : decode cX10_readClaim 166 = .ok (.iconst 5, 1) := by decide +kernel
theorem dX10_readClaim_167 : decode cX10_readClaim 167 = .ok (.if_icmp .ne 10, 3) := by decide +kernel
theorem dX10_readClaim_170 : decode cX10_readClaim 170 = .ok (.aload_n 0, 1) := by decide +kernel
theorem dX10_readClaim_171 : decode cX10_readClaim 171 = .ok (.iload_n 1, 1) := by decide +kernel
theorem dX10_readClaim_172 : decode cX10_readClaim 172 = .ok (.invokevirtual 368, 3) := by decide +kernel
theorem dX10_readClaim_175 : decode cX10_readClaim 175 = .ok (.istore 4, 2) := by decide +kernel
theorem dX10_readClaim_177 : decode cX10_readClaim 177 = .ok (.aload_n 0, 1) := by decide +kernel
theorem dX10_readClaim_178 : decode cX10_readClaim 178 = .ok (.getfield 326, 3) := by decide +kernel
theorem dX10_readClaim_181 : decode cX10_readClaim 181 = .ok (.ifCond .ne 21, 3) := by decide +kernel
theorem dX10_readClaim_184 : decode cX10_readClaim 184 = .ok (.aload_n 0, 1) := by decide +kernel
theorem dX10_readClaim_185 : decode cX10_readClaim 185 = .ok (.aload_n 0, 1) := by decide +kernel
theorem dX10_readClaim_186 : decode cX10_readClaim 186 = .ok (.getfield 344, 3) := by decide +kernel
theorem dX10_readClaim_189 : decode cX10_readClaim 189 = .ok (.iconst 3, 1) := by decide +kernel
theorem dX10_readClaim_190 : decode cX10_readClaim 190 = .ok (.if_icmp .ne 7, 3) := by decide +kernel
theorem dX10_readClaim_193 : decode cX10_readClaim 193 = .ok (.iconst 1, 1) := by decide +kernel
theorem dX10_readClaim_194 : decode cX10_readClaim 194 = .ok (.goto 4, 3) := by decide +kernel
theorem dX10_readClaim_197 : decode cX10_readClaim 197 = .ok (.iconst 0, 1) := by decide +kernel
theorem dX10_readClaim_198 : decode cX10_readClaim 198 = .ok (.iconst 2, 1) := by decide +kernel
theorem dX10_readClaim_199 : decode cX10_readClaim 199 = .ok (.invokevirtual 357, 3) := by decide +kernel
theorem dX10_readClaim_202 : decode cX10_readClaim 202 = .ok (.aload_n 0, 1) := by decide +kernel
theorem dX10_readClaim_203 : decode cX10_readClaim 203 = .ok (.invokevirtual 365, 3) := by decide +kernel
theorem dX10_readClaim_206 : decode cX10_readClaim 206 = .ok (.aload_n 0, 1) := by decide +kernel
theorem dX10_readClaim_207 : decode cX10_readClaim 207 = .ok (.getfield 326, 3) := by decide +kernel
theorem dX10_readClaim_210 : decode cX10_readClaim 210 = .ok (.ifCond .le 5, 3) := by decide +kernel
theorem dX10_readClaim_213 : decode cX10_readClaim 213 = .ok (.iload_n 1, 1) := by decide +kernel
theorem dX10_readClaim_214 : decode cX10_readClaim 214 = .ok (.ireturn, 1) := by decide +kernel
theorem dX10_readClaim_215 : decode cX10_readClaim 215 = .ok (.aload_n 0, 1) := by decide +kernel
theorem dX10_readClaim_216 : decode cX10_readClaim 216 = .ok (.getfield 108, 3) := by decide +kernel
theorem dX10_readClaim_219 : decode cX10_readClaim 219 = .ok (.iload_n 1, 1) := by decide +kernel
theorem dX10_readClaim_220 : decode cX10_readClaim 220 = .ok (.iload_n 2, 1) := by decide +kernel
theorem dX10_readClaim_221 : decode cX10_readClaim 221 = .ok (.iastore, 1) := by decide +kernel
theorem dX10_readClaim_222 : decode cX10_readClaim 222 = .ok (.aload_n 0, 1) := by decide +kernel
theorem dX10_readClaim_223 : decode cX10_readClaim 223 = .ok (.getfield 111, 3) := by decide +kernel
theorem dX10_readClaim_226 : decode cX10_readClaim 226 = .ok (.iload_n 1, 1) := by decide +kernel
theorem dX10_readClaim_227 : decode cX10_readClaim 227 = .ok (.iload_n 3, 1) := by decide +kernel
theorem dX10_readClaim_228 : decode cX10_readClaim 228 = .ok (.iastore, 1) := by decide +kernel
theorem dX10_readClaim_229 : decode cX10_readClaim 229 = .ok (.aload_n 0, 1) := by decide +kernel
theorem dX10_readClaim_230 : decode cX10_readClaim 230 = .ok (.getfield 114, 3) := by decide +kernel
theorem dX10_readClaim_233 : decode cX10_readClaim 233 = .ok (.iload_n 1, 1) := by decide +kernel
theorem dX10_readClaim_234 : decode cX10_readClaim 234 = .ok (.aload_n 0, 1) := by decide +kernel
theorem dX10_readClaim_235 : decode cX10_readClaim 235 = .ok (.getfield 371, 3) := by decide +kernel
theorem dX10_readClaim_238 : decode cX10_readClaim 238 = .ok (.iastore, 1) := by decide +kernel
theorem dX10_readClaim_239 : decode cX10_readClaim 239 = .ok (.aload_n 0, 1) := by decide +kernel
theorem dX10_readClaim_240 : decode cX10_readClaim 240 = .ok (.getfield 117, 3) := by decide +kernel
theorem dX10_readClaim_243 : decode cX10_readClaim 243 = .ok (.iload_n 1, 1) := by decide +kernel
theorem dX10_readClaim_244 : decode cX10_readClaim 244 = .ok (.bipush (-4), 2) := by decide +kernel
theorem dX10_readClaim_246 : decode cX10_readClaim 246 = .ok (.iastore, 1) := by decide +kernel
theorem dX10_readClaim_247 : decode cX10_readClaim 247 = .ok (.aload_n 0, 1) := by decide +kernel
theorem dX10_readClaim_248 : decode cX10_readClaim 248 = .ok (.getfield 120, 3) := by decide +kernel
theorem dX10_readClaim_251 : decode cX10_readClaim 251 = .ok (.iload_n 1, 1) := by decide +kernel
theorem dX10_readClaim_252 : decode cX10_readClaim 252 = .ok (.iload 4, 2) := by decide +kernel
theorem dX10_readClaim_254 : decode cX10_readClaim 254 = .ok (.iastore, 1) := by decide +kernel
theorem dX10_readClaim_255 : decode cX10_readClaim 255 = .ok (.iload_n 1, 1) := by decide +kernel
theorem dX10_readClaim_256 : decode cX10_readClaim 256 = .ok (.iconst 1, 1) := by decide +kernel
theorem dX10_readClaim_257 : decode cX10_readClaim 257 = .ok (.iadd, 1) := by decide +kernel
theorem dX10_readClaim_258 : decode cX10_readClaim 258 = .ok (.ireturn, 1) := by decide +kernel
theorem dX10_claims_0 : decode cX10_claims 0 = .ok (.aload_n 0, 1) := by decide +kernel
theorem dX10_claims_1 : decode cX10_claims 1 = .ok (.getfield 374, 3) := by decide +kernel
theorem dX10_claims_4 : decode cX10_claims 4 = .ok (.istore_n 1, 1) := by decide +kernel
theorem dX10_claims_5 : decode cX10_claims 5 = .ok (.aload_n 0, 1) := by decide +kernel
theorem dX10_claims_6 : decode cX10_claims 6 = .ok (.iconst 0, 1) := by decide +kernel
theorem dX10_claims_7 : decode cX10_claims 7 = .ok (.putfield 326, 3) := by decide +kernel
theorem dX10_claims_10 : decode cX10_claims 10 = .ok (.aload_n 0, 1) := by decide +kernel
theorem dX10_claims_11 : decode cX10_claims 11 = .ok (.iconst 0, 1) := by decide +kernel
theorem dX10_claims_12 : decode cX10_claims 12 = .ok (.putfield 335, 3) := by decide +kernel
theorem dX10_claims_15 : decode cX10_claims 15 = .ok (.aload_n 0, 1) := by decide +kernel
theorem dX10_claims_16 : decode cX10_claims 16 = .ok (.invokevirtual 365, 3) := by decide +kernel
theorem dX10_claims_19 : decode cX10_claims 19 = .ok (.aload_n 0, 1) := by decide +kernel
theorem dX10_claims_20 : decode cX10_claims 20 = .ok (.getfield 326, 3) := by decide +kernel
theorem dX10_claims_23 : decode cX10_claims 23 = .ok (.ifCond .ne 19, 3) := by decide +kernel
theorem dX10_claims_26 : decode cX10_claims 26 = .ok (.aload_n 0, 1) := by decide +kernel
theorem dX10_claims_27 : decode cX10_claims 27 = .ok (.getfield 344, 3) := by decide +kernel
theorem dX10_claims_30 : decode cX10_claims 30 = .ok (.ifCond .eq 12, 3) := by decide +kernel
theorem dX10_claims_33 : decode cX10_claims 33 = .ok (.aload_n 0, 1) := by decide +kernel
theorem dX10_claims_34 : decode cX10_claims 34 = .ok (.iload_n 1, 1) := by decide +kernel
theorem dX10_claims_35 : decode cX10_claims 35 = .ok (.invokevirtual 377, 3) := by decide +kernel
theorem dX10_claims_38 : decode cX10_claims 38 = .ok (.istore_n 1, 1) := by decide +kernel
theorem dX10_claims_39 : decode cX10_claims 39 = .ok (.goto (-20), 3) := by decide +kernel
theorem dX10_claims_42 : decode cX10_claims 42 = .ok (.aload_n 0, 1) := by decide +kernel
theorem dX10_claims_43 : decode cX10_claims 43 = .ok (.iconst 0, 1) := by decide +kernel
theorem dX10_claims_44 : decode cX10_claims 44 = .ok (.putfield 321, 3) := by decide +kernel
theorem dX10_claims_47 : decode cX10_claims 47 = .ok (.aload_n 0, 1) := by decide +kernel
theorem dX10_claims_48 : decode cX10_claims 48 = .ok (.getfield 326, 3) := by decide +kernel
theorem dX10_claims_51 : decode cX10_claims 51 = .ok (.ifCond .le 11, 3) := by decide +kernel
theorem dX10_claims_54 : decode cX10_claims 54 = .ok (.bipush (-10), 2) := by decide +kernel
theorem dX10_claims_56 : decode cX10_claims 56 = .ok (.aload_n 0, 1) := by decide +kernel
theorem dX10_claims_57 : decode cX10_claims 57 = .ok (.getfield 332, 3) := by decide +kernel
theorem dX10_claims_60 : decode cX10_claims 60 = .ok (.isub, 1) := by decide +kernel
theorem dX10_claims_61 : decode cX10_claims 61 = .ok (.ireturn, 1) := by decide +kernel
theorem dX10_claims_62 : decode cX10_claims 62 = .ok (.iload_n 1, 1) := by decide +kernel
theorem dX10_claims_63 : decode cX10_claims 63 = .ok (.aload_n 0, 1) := by decide +kernel
theorem dX10_claims_64 : decode cX10_claims 64 = .ok (.getfield 374, 3) := by decide +kernel
theorem dX10_claims_67 : decode cX10_claims 67 = .ok (.isub, 1) := by decide +kernel
theorem dX10_claims_68 : decode cX10_claims 68 = .ok (.istore_n 2, 1) := by decide +kernel
theorem dX10_claims_69 : decode cX10_claims 69 = .ok (.aload_n 0, 1) := by decide +kernel
theorem dX10_claims_70 : decode cX10_claims 70 = .ok (.iload_n 1, 1) := by decide +kernel
theorem dX10_claims_71 : decode cX10_claims 71 = .ok (.putfield 374, 3) := by decide +kernel
theorem dX10_claims_74 : decode cX10_claims 74 = .ok (.iload_n 2, 1) := by decide +kernel
theorem dX10_claims_75 : decode cX10_claims 75 = .ok (.ireturn, 1) := by decide +kernel
theorem dX10_fault_0 : decode cX10_fault 0 = .ok (.aload_n 0, 1) := by decide +kernel
theorem dX10_fault_1 : decode cX10_fault 1 = .ok (.getfield 326, 3) := by decide +kernel
theorem dX10_fault_4 : decode cX10_fault 4 = .ok (.ireturn, 1) := by decide +kernel
theorem dX10_isClaim_0 : decode cX10_isClaim 0 = .ok (.iload_n 1, 1) := by decide +kernel
theorem dX10_isClaim_1 : decode cX10_isClaim 1 = .ok (.i2l, 1) := by decide +kernel
theorem dX10_isClaim_2 : decode cX10_isClaim 2 = .ok (.lconst 0, 1) := by decide +kernel
theorem dX10_isClaim_3 : decode cX10_isClaim 3 = .ok (.aload_n 0, 1) := by decide +kernel
theorem dX10_isClaim_4 : decode cX10_isClaim 4 = .ok (.getfield 374, 3) := by decide +kernel
theorem dX10_isClaim_7 : decode cX10_isClaim 7 = .ok (.iconst 1, 1) := by decide +kernel
theorem dX10_isClaim_8 : decode cX10_isClaim 8 = .ok (.isub, 1) := by decide +kernel
theorem dX10_isClaim_9 : decode cX10_isClaim 9 = .ok (.i2l, 1) := by decide +kernel
theorem dX10_isClaim_10 : decode cX10_isClaim 10 = .ok (.invokestatic 138, 3) := by decide +kernel
theorem dX10_isClaim_13 : decode cX10_isClaim 13 = .ok (.ireturn, 1) := by decide +kernel
theorem dX10_hanging_0 : decode cX10_hanging 0 = .ok (.iconst 1, 1) := by decide +kernel
theorem dX10_hanging_1 : decode cX10_hanging 1 = .ok (.iload_n 1, 1) := by decide +kernel
theorem dX10_hanging_2 : decode cX10_hanging 2 = .ok (.ishl, 1) := by decide +kernel
theorem dX10_hanging_3 : decode cX10_hanging 3 = .ok (.istore_n 2, 1) := by decide +kernel
theorem dX10_hanging_4 : decode cX10_hanging 4 = .ok (.iload_n 1, 1) := by decide +kernel
theorem dX10_hanging_5 : decode cX10_hanging 5 = .ok (.iconst 1, 1) := by decide +kernel
theorem dX10_hanging_6 : decode cX10_hanging 6 = .ok (.iadd, 1) := by decide +kernel
theorem dX10_hanging_7 : decode cX10_hanging 7 = .ok (.istore_n 3, 1) := by decide +kernel
theorem dX10_hanging_8 : decode cX10_hanging 8 = .ok (.iload_n 3, 1) := by decide +kernel
theorem dX10_hanging_9 : decode cX10_hanging 9 = .ok (.aload_n 0, 1) := by decide +kernel
theorem dX10_hanging_10 : decode cX10_hanging 10 = .ok (.getfield 374, 3) := by decide +kernel
theorem dX10_hanging_13 : decode cX10_hanging 13 = .ok (.if_icmp .ge 30, 3) := by decide +kernel
theorem dX10_hanging_16 : decode cX10_hanging 16 = .ok (.iload_n 2, 1) := by decide +kernel
theorem dX10_hanging_17 : decode cX10_hanging 17 = .ok (.aload_n 0, 1) := by decide +kernel
theorem dX10_hanging_18 : decode cX10_hanging 18 = .ok (.getfield 120, 3) := by decide +kernel
theorem dX10_hanging_21 : decode cX10_hanging 21 = .ok (.iload_n 3, 1) := by decide +kernel
theorem dX10_hanging_22 : decode cX10_hanging 22 = .ok (.iaload, 1) := by decide +kernel
theorem dX10_hanging_23 : decode cX10_hanging 23 = .ok (.iload_n 2, 1) := by decide +kernel
theorem dX10_hanging_24 : decode cX10_hanging 24 = .ok (.iand, 1) := by decide +kernel
theorem dX10_hanging_25 : decode cX10_hanging 25 = .ok (.ifCond .eq 9, 3) := by decide +kernel
theorem dX10_hanging_28 : decode cX10_hanging 28 = .ok (.iconst 1, 1) := by decide +kernel
theorem dX10_hanging_29 : decode cX10_hanging 29 = .ok (.iload_n 3, 1) := by decide +kernel
theorem dX10_hanging_30 : decode cX10_hanging 30 = .ok (.ishl, 1) := by decide +kernel
theorem dX10_hanging_31 : decode cX10_hanging 31 = .ok (.goto 4, 3) := by decide +kernel
theorem dX10_hanging_34 : decode cX10_hanging 34 = .ok (.iconst 0, 1) := by decide +kernel
theorem dX10_hanging_35 : decode cX10_hanging 35 = .ok (.ior, 1) := by decide +kernel
theorem dX10_hanging_36 : decode cX10_hanging 36 = .ok (.istore_n 2, 1) := by decide +kernel
theorem dX10_hanging_37 : decode cX10_hanging 37 = .ok (.iinc 3 1, 3) := by decide +kernel
theorem dX10_hanging_40 : decode cX10_hanging 40 = .ok (.goto (-32), 3) := by decide +kernel
theorem dX10_hanging_43 : decode cX10_hanging 43 = .ok (.iload_n 2, 1) := by decide +kernel
theorem dX10_hanging_44 : decode cX10_hanging 44 = .ok (.ireturn, 1) := by decide +kernel
theorem dX10_deepOf_0 : decode cX10_deepOf 0 = .ok (.iconst 0, 1) := by decide +kernel
theorem dX10_deepOf_1 : decode cX10_deepOf 1 = .ok (.istore_n 2, 1) := by decide +kernel
theorem dX10_deepOf_2 : decode cX10_deepOf 2 = .ok (.iload_n 2, 1) := by decide +kernel
theorem dX10_deepOf_3 : decode cX10_deepOf 3 = .ok (.iload_n 1, 1) := by decide +kernel
theorem dX10_deepOf_4 : decode cX10_deepOf 4 = .ok (.if_icmp .gt 83, 3) := by decide +kernel
theorem dX10_deepOf_7 : decode cX10_deepOf 7 = .ok (.aload_n 0, 1) := by decide +kernel
theorem dX10_deepOf_8 : decode cX10_deepOf 8 = .ok (.getfield 123, 3) := by decide +kernel
theorem dX10_deepOf_11 : decode cX10_deepOf 11 = .ok (.iload_n 2, 1) := by decide +kernel
theorem dX10_deepOf_12 : decode cX10_deepOf 12 = .ok (.iconst 0, 1) := by decide +kernel
theorem dX10_deepOf_13 : decode cX10_deepOf 13 = .ok (.iastore, 1) := by decide +kernel
theorem dX10_deepOf_14 : decode cX10_deepOf 14 = .ok (.iconst 0, 1) := by decide +kernel
theorem dX10_deepOf_15 : decode cX10_deepOf 15 = .ok (.istore_n 3, 1) := by decide +kernel
theorem dX10_deepOf_16 : decode cX10_deepOf 16 = .ok (.iload_n 3, 1) := by decide +kernel
theorem dX10_deepOf_17 : decode cX10_deepOf 17 = .ok (.iload_n 2, 1) := by decide +kernel
theorem dX10_deepOf_18 : decode cX10_deepOf 18 = .ok (.if_icmp .ge 63, 3) := by decide +kernel
theorem dX10_deepOf_21 : decode cX10_deepOf 21 = .ok (.aload_n 0, 1) := by decide +kernel
theorem dX10_deepOf_22 : decode cX10_deepOf 22 = .ok (.getfield 123, 3) := by decide +kernel
theorem dX10_deepOf_25 : decode cX10_deepOf 25 = .ok (.iload_n 2, 1) := by decide +kernel
theorem dX10_deepOf_26 : decode cX10_deepOf 26 = .ok (.aload_n 0, 1) := by decide +kernel
theorem dX10_deepOf_27 : decode cX10_deepOf 27 = .ok (.getfield 120, 3) := by decide +kernel
theorem dX10_deepOf_30 : decode cX10_deepOf 30 = .ok (.iload_n 2, 1) := by decide +kernel
theorem dX10_deepOf_31 : decode cX10_deepOf 31 = .ok (.iaload, 1) := by decide +kernel
theorem dX10_deepOf_32 : decode cX10_deepOf 32 = .ok (.iload_n 3, 1) := by decide +kernel
theorem dX10_deepOf_33 : decode cX10_deepOf 33 = .ok (.ishr, 1) := by decide +kernel
theorem dX10_deepOf_34 : decode cX10_deepOf 34 = .ok (.iconst 1, 1) := by decide +kernel
theorem dX10_deepOf_35 : decode cX10_deepOf 35 = .ok (.iand, 1) := by decide +kernel
theorem dX10_deepOf_36 : decode cX10_deepOf 36 = .ok (.iconst 1, 1) := by decide +kernel
theorem dX10_deepOf_37 : decode cX10_deepOf 37 = .ok (.if_icmp .ne 31, 3) := by decide +kernel
theorem dX10_deepOf_40 : decode cX10_deepOf 40 = .ok (.aload_n 0, 1) := by decide +kernel
theorem dX10_deepOf_41 : decode cX10_deepOf 41 = .ok (.getfield 123, 3) := by decide +kernel
theorem dX10_deepOf_44 : decode cX10_deepOf 44 = .ok (.iload_n 3, 1) := by decide +kernel
theorem dX10_deepOf_45 : decode cX10_deepOf 45 = .ok (.iaload, 1) := by decide +kernel
theorem dX10_deepOf_46 : decode cX10_deepOf 46 = .ok (.iconst 1, 1) := by decide +kernel
theorem dX10_deepOf_47 : decode cX10_deepOf 47 = .ok (.iadd, 1) := by decide +kernel
theorem dX10_deepOf_48 : decode cX10_deepOf 48 = .ok (.aload_n 0, 1) := by decide +kernel
theorem dX10_deepOf_49 : decode cX10_deepOf 49 = .ok (.getfield 123, 3) := by decide +kernel
theorem dX10_deepOf_52 : decode cX10_deepOf 52 = .ok (.iload_n 2, 1) := by decide +kernel
theorem dX10_deepOf_53 : decode cX10_deepOf 53 = .ok (.iaload, 1) := by decide +kernel
theorem dX10_deepOf_54 : decode cX10_deepOf 54 = .ok (.if_icmp .le 14, 3) := by decide +kernel
theorem dX10_deepOf_57 : decode cX10_deepOf 57 = .ok (.aload_n 0, 1) := by decide +kernel
theorem dX10_deepOf_58 : decode cX10_deepOf 58 = .ok (.getfield 123, 3) := by decide +kernel
theorem dX10_deepOf_61 : decode cX10_deepOf 61 = .ok (.iload_n 3, 1) := by decide +kernel
theorem dX10_deepOf_62 : decode cX10_deepOf 62 = .ok (.iaload, 1) := by decide +kernel
theorem dX10_deepOf_63 : decode cX10_deepOf 63 = .ok (.iconst 1, 1) := by decide +kernel
theorem dX10_deepOf_64 : decode cX10_deepOf 64 = .ok (.iadd, 1) := by decide +kernel
theorem dX10_deepOf_65 : decode cX10_deepOf 65 = .ok (.goto 9, 3) := by decide +kernel
theorem dX10_deepOf_68 : decode cX10_deepOf 68 = .ok (.aload_n 0, 1) := by decide +kernel
theorem dX10_deepOf_69 : decode cX10_deepOf 69 = .ok (.getfield 123, 3) := by decide +kernel
theorem dX10_deepOf_72 : decode cX10_deepOf 72 = .ok (.iload_n 2, 1) := by decide +kernel
theorem dX10_deepOf_73 : decode cX10_deepOf 73 = .ok (.iaload, 1) := by decide +kernel
theorem dX10_deepOf_74 : decode cX10_deepOf 74 = .ok (.iastore, 1) := by decide +kernel
theorem dX10_deepOf_75 : decode cX10_deepOf 75 = .ok (.iinc 3 1, 3) := by decide +kernel
theorem dX10_deepOf_78 : decode cX10_deepOf 78 = .ok (.goto (-62), 3) := by decide +kernel
theorem dX10_deepOf_81 : decode cX10_deepOf 81 = .ok (.iinc 2 1, 3) := by decide +kernel
theorem dX10_deepOf_84 : decode cX10_deepOf 84 = .ok (.goto (-82), 3) := by decide +kernel
theorem dX10_deepOf_87 : decode cX10_deepOf 87 = .ok (.aload_n 0, 1) := by decide +kernel
theorem dX10_deepOf_88 : decode cX10_deepOf 88 = .ok (.getfield 123, 3) := by decide +kernel
theorem dX10_deepOf_91 : decode cX10_deepOf 91 = .ok (.iload_n 1, 1) := by decide +kernel
theorem dX10_deepOf_92 : decode cX10_deepOf 92 = .ok (.iaload, 1) := by decide +kernel
theorem dX10_deepOf_93 : decode cX10_deepOf 93 = .ok (.ireturn, 1) := by decide +kernel
theorem dX10_claim_0 : decode cX10_claim 0 = .ok (.aload_n 0, 1) := by decide +kernel
theorem dX10_claim_1 : decode cX10_claim 1 = .ok (.iload_n 1, 1) := by decide +kernel
theorem dX10_claim_2 : decode cX10_claim 2 = .ok (.invokevirtual 380, 3) := by decide +kernel
theorem dX10_claim_5 : decode cX10_claim 5 = .ok (.ifCond .eq 15, 3) := by decide +kernel
theorem dX10_claim_8 : decode cX10_claim 8 = .ok (.iload_n 2, 1) := by decide +kernel
theorem dX10_claim_9 : decode cX10_claim 9 = .ok (.i2l, 1) := by decide +kernel
theorem dX10_claim_10 : decode cX10_claim 10 = .ok (.lconst 0, 1) := by decide +kernel
theorem dX10_claim_11 : decode cX10_claim 11 = .ok (.ldc2_w 277, 3) := by decide +kernel
theorem dX10_claim_14 : decode cX10_claim 14 = .ok (.invokestatic 138, 3) := by decide +kernel
theorem dX10_claim_17 : decode cX10_claim 17 = .ok (.ifCond .ne 5, 3) := by decide +kernel
theorem dX10_claim_20 : decode cX10_claim 20 = .ok (.iconst (-1), 1) := by decide +kernel
theorem dX10_claim_21 : decode cX10_claim 21 = .ok (.ireturn, 1) := by decide +kernel
theorem dX10_claim_22 : decode cX10_claim 22 = .ok (.iload_n 2, 1) := by decide +kernel
theorem dX10_claim_23 : decode cX10_claim 23 = .ok (.tableswitch 139 0 5 #[37, 44, 51, 58, 65, 75], 37) := by decide +kernel
theorem dX10_claim_60 : decode cX10_claim 60 = .ok (.aload_n 0, 1) := by decide +kernel
theorem dX10_claim_61 : decode cX10_claim 61 = .ok (.getfield 108, 3) := by decide +kernel
theorem dX10_claim_64 : decode cX10_claim 64 = .ok (.iload_n 1, 1) := by decide +kernel
theorem dX10_claim_65 : decode cX10_claim 65 = .ok (.iaload, 1) := by decide +kernel
theorem dX10_claim_66 : decode cX10_claim 66 = .ok (.ireturn, 1) := by decide +kernel
theorem dX10_claim_67 : decode cX10_claim 67 = .ok (.aload_n 0, 1) := by decide +kernel
theorem dX10_claim_68 : decode cX10_claim 68 = .ok (.getfield 111, 3) := by decide +kernel
theorem dX10_claim_71 : decode cX10_claim 71 = .ok (.iload_n 1, 1) := by decide +kernel
theorem dX10_claim_72 : decode cX10_claim 72 = .ok (.iaload, 1) := by decide +kernel
theorem dX10_claim_73 : decode cX10_claim 73 = .ok (.ireturn, 1) := by decide +kernel
theorem dX10_claim_74 : decode cX10_claim 74 = .ok (.aload_n 0, 1) := by decide +kernel
theorem dX10_claim_75 : decode cX10_claim 75 = .ok (.getfield 114, 3) := by decide +kernel
theorem dX10_claim_78 : decode cX10_claim 78 = .ok (.iload_n 1, 1) := by decide +kernel
theorem dX10_claim_79 : decode cX10_claim 79 = .ok (.iaload, 1) := by decide +kernel
theorem dX10_claim_80 : decode cX10_claim 80 = .ok (.ireturn, 1) := by decide +kernel
theorem dX10_claim_81 : decode cX10_claim 81 = .ok (.aload_n 0, 1) := by decide +kernel
theorem dX10_claim_82 : decode cX10_claim 82 = .ok (.getfield 117, 3) := by decide +kernel
theorem dX10_claim_85 : decode cX10_claim 85 = .ok (.iload_n 1, 1) := by decide +kernel
theorem dX10_claim_86 : decode cX10_claim 86 = .ok (.iaload, 1) := by decide +kernel
theorem dX10_claim_87 : decode cX10_claim 87 = .ok (.ireturn, 1) := by decide +kernel
theorem dX10_claim_88 : decode cX10_claim 88 = .ok (.aload_n 0, 1) := by decide +kernel
theorem dX10_claim_89 : decode cX10_claim 89 = .ok (.getfield 120, 3) := by decide +kernel
theorem dX10_claim_92 : decode cX10_claim 92 = .ok (.iload_n 1, 1) := by decide +kernel
theorem dX10_claim_93 : decode cX10_claim 93 = .ok (.iaload, 1) := by decide +kernel
theorem dX10_claim_94 : decode cX10_claim 94 = .ok (.invokestatic 146, 3) := by decide +kernel
theorem dX10_claim_97 : decode cX10_claim 97 = .ok (.ireturn, 1) := by decide +kernel
theorem dX10_claim_98 : decode cX10_claim 98 = .ok (.aload_n 0, 1) := by decide +kernel
theorem dX10_claim_99 : decode cX10_claim 99 = .ok (.iload_n 1, 1) := by decide +kernel
theorem dX10_claim_100 : decode cX10_claim 100 = .ok (.invokevirtual 383, 3) := by decide +kernel
theorem dX10_claim_103 : decode cX10_claim 103 = .ok (.istore_n 3, 1) := by decide +kernel
theorem dX10_claim_104 : decode cX10_claim 104 = .ok (.iconst 0, 1) := by decide +kernel
theorem dX10_claim_105 : decode cX10_claim 105 = .ok (.istore 4, 2) := by decide +kernel
theorem dX10_claim_107 : decode cX10_claim 107 = .ok (.iload_n 1, 1) := by decide +kernel
theorem dX10_claim_108 : decode cX10_claim 108 = .ok (.iconst 1, 1) := by decide +kernel
theorem dX10_claim_109 : decode cX10_claim 109 = .ok (.iadd, 1) := by decide +kernel
theorem dX10_claim_110 : decode cX10_claim 110 = .ok (.istore 5, 2) := by decide +kernel
theorem dX10_claim_112 : decode cX10_claim 112 = .ok (.iload 5, 2) := by decide +kernel
theorem dX10_claim_114 : decode cX10_claim 114 = .ok (.aload_n 0, 1) := by decide +kernel
theorem dX10_claim_115 : decode cX10_claim 115 = .ok (.getfield 374, 3) := by decide +kernel
theorem dX10_claim_118 : decode cX10_claim 118 = .ok (.if_icmp .ge 41, 3) := by decide +kernel
theorem dX10_claim_121 : decode cX10_claim 121 = .ok (.iload 4, 2) := by decide +kernel
theorem dX10_claim_123 : decode cX10_claim 123 = .ok (.iload_n 3, 1) := by decide +kernel
theorem dX10_claim_124 : decode cX10_claim 124 = .ok (.iload 5, 2) := by decide +kernel
theorem dX10_claim_126 : decode cX10_claim 126 = .ok (.ishr, 1) := by decide +kernel
theorem dX10_claim_127 : decode cX10_claim 127 = .ok (.iconst 1, 1) := by decide +kernel
theorem dX10_claim_128 : decode cX10_claim 128 = .ok (.iand, 1) := by decide +kernel
theorem dX10_claim_129 : decode cX10_claim 129 = .ok (.iconst 1, 1) := by decide +kernel
theorem dX10_claim_130 : decode cX10_claim 130 = .ok (.if_icmp .ne 19, 3) := by decide +kernel
theorem dX10_claim_133 : decode cX10_claim 133 = .ok (.aload_n 0, 1) := by decide +kernel
theorem dX10_claim_134 : decode cX10_claim 134 = .ok (.getfield 117, 3) := by decide +kernel
theorem dX10_claim_137 : decode cX10_claim 137 = .ok (.iload 5, 2) := by decide +kernel
theorem dX10_claim_139 : decode cX10_claim 139 = .ok (.iaload, 1) := by decide +kernel
theorem dX10_claim_140 : decode cX10_claim 140 = .ok (.bipush (-4), 2) := by decide +kernel
theorem dX10_claim_142 : decode cX10_claim 142 = .ok (.if_icmp .ne 7, 3) := by decide +kernel
theorem dX10_claim_145 : decode cX10_claim 145 = .ok (.iconst 1, 1) := by decide +kernel
theorem dX10_claim_146 : decode cX10_claim 146 = .ok (.goto 4, 3) := by decide +kernel
theorem dX10_claim_149 : decode cX10_claim 149 = .ok (.iconst 0, 1) := by decide +kernel
theorem dX10_claim_150 : decode cX10_claim 150 = .ok (.iadd, 1) := by decide +kernel
theorem dX10_claim_151 : decode cX10_claim 151 = .ok (.istore 4, 2) := by decide +kernel
theorem dX10_claim_153 : decode cX10_claim 153 = .ok (.iinc 5 1, 3) := by decide +kernel
theorem dX10_claim_156 : decode cX10_claim 156 = .ok (.goto (-44), 3) := by decide +kernel
theorem dX10_claim_159 : decode cX10_claim 159 = .ok (.iload 4, 2) := by decide +kernel
theorem dX10_claim_161 : decode cX10_claim 161 = .ok (.ireturn, 1) := by decide +kernel
theorem dX10_claim_162 : decode cX10_claim 162 = .ok (.aload_n 0, 1) := by decide +kernel
theorem dX10_claim_163 : decode cX10_claim 163 = .ok (.iload_n 1, 1) := by decide +kernel
theorem dX10_claim_164 : decode cX10_claim 164 = .ok (.invokevirtual 386, 3) := by decide +kernel
theorem dX10_claim_167 : decode cX10_claim 167 = .ok (.ireturn, 1) := by decide +kernel
theorem dX10_withdraw_0 : decode cX10_withdraw 0 = .ok (.aload_n 0, 1) := by decide +kernel
theorem dX10_withdraw_1 : decode cX10_withdraw 1 = .ok (.iload_n 1, 1) := by decide +kernel
theorem dX10_withdraw_2 : decode cX10_withdraw 2 = .ok (.invokevirtual 380, 3) := by decide +kernel
theorem dX10_withdraw_5 : decode cX10_withdraw 5 = .ok (.ifCond .ne 5, 3) := by decide +kernel
theorem dX10_withdraw_8 : decode cX10_withdraw 8 = .ok (.iconst (-1), 1) := by decide +kernel
theorem dX10_withdraw_9 : decode cX10_withdraw 9 = .ok (.ireturn, 1) := by decide +kernel
theorem dX10_withdraw_10 : decode cX10_withdraw 10 = .ok (.aload_n 0, 1) := by decide +kernel
theorem dX10_withdraw_11 : decode cX10_withdraw 11 = .ok (.getfield 117, 3) := by decide +kernel
theorem dX10_withdraw_14 : decode cX10_withdraw 14 = .ok (.iload_n 1, 1) := by decide +kernel
theorem dX10_withdraw_15 : decode cX10_withdraw 15 = .ok (.iaload, 1) := by decide +kernel
theorem dX10_withdraw_16 : decode cX10_withdraw 16 = .ok (.bipush (-4), 2) := by decide +kernel
theorem dX10_withdraw_18 : decode cX10_withdraw 18 = .ok (.if_icmp .eq 6, 3) := by decide +kernel
theorem dX10_withdraw_21 : decode cX10_withdraw 21 = .ok (.bipush (-2), 2) := by decide +kernel
theorem dX10_withdraw_23 : decode cX10_withdraw 23 = .ok (.ireturn, 1) := by decide +kernel
theorem dX10_withdraw_24 : decode cX10_withdraw 24 = .ok (.aload_n 0, 1) := by decide +kernel
theorem dX10_withdraw_25 : decode cX10_withdraw 25 = .ok (.iload_n 1, 1) := by decide +kernel
theorem dX10_withdraw_26 : decode cX10_withdraw 26 = .ok (.invokevirtual 383, 3) := by decide +kernel
theorem dX10_withdraw_29 : decode cX10_withdraw 29 = .ok (.istore_n 2, 1) := by decide +kernel
theorem dX10_withdraw_30 : decode cX10_withdraw 30 = .ok (.iconst 0, 1) := by decide +kernel
theorem dX10_withdraw_31 : decode cX10_withdraw 31 = .ok (.istore_n 3, 1) := by decide +kernel
theorem dX10_withdraw_32 : decode cX10_withdraw 32 = .ok (.iconst 0, 1) := by decide +kernel
theorem dX10_withdraw_33 : decode cX10_withdraw 33 = .ok (.istore 4, 2) := by decide +kernel
theorem dX10_withdraw_35 : decode cX10_withdraw 35 = .ok (.iload 4, 2) := by decide +kernel
theorem dX10_withdraw_37 : decode cX10_withdraw 37 = .ok (.aload_n 0, 1) := by decide +kernel
theorem dX10_withdraw_38 : decode cX10_withdraw 38 = .ok (.getfield 374, 3) := by decide +kernel
theorem dX10_withdraw_41 : decode cX10_withdraw 41 = .ok (.if_icmp .ge 45, 3) := by decide +kernel
theorem dX10_withdraw_44 : decode cX10_withdraw 44 = .ok (.iload_n 2, 1) := by decide +kernel
theorem dX10_withdraw_45 : decode cX10_withdraw 45 = .ok (.iload 4, 2) := by decide +kernel
theorem dX10_withdraw_47 : decode cX10_withdraw 47 = .ok (.ishr, 1) := by decide +kernel
theorem dX10_withdraw_48 : decode cX10_withdraw 48 = .ok (.iconst 1, 1) := by decide +kernel
theorem dX10_withdraw_49 : decode cX10_withdraw 49 = .ok (.iand, 1) := by decide +kernel
theorem dX10_withdraw_50 : decode cX10_withdraw 50 = .ok (.iconst 1, 1) := by decide +kernel
theorem dX10_withdraw_51 : decode cX10_withdraw 51 = .ok (.if_icmp .ne 29, 3) := by decide +kernel
theorem dX10_withdraw_54 : decode cX10_withdraw 54 = .ok (.aload_n 0, 1) := by decide +kernel
theorem dX10_withdraw_55 : decode cX10_withdraw 55 = .ok (.getfield 117, 3) := by decide +kernel
theorem dX10_withdraw_58 : decode cX10_withdraw 58 = .ok (.iload 4, 2) := by decide +kernel
theorem dX10_withdraw_60 : decode cX10_withdraw 60 = .ok (.iaload, 1) := by decide +kernel
theorem dX10_withdraw_61 : decode cX10_withdraw 61 = .ok (.bipush (-4), 2) := by decide +kernel
theorem dX10_withdraw_63 : decode cX10_withdraw 63 = .ok (.if_icmp .ne 17, 3) := by decide +kernel
theorem dX10_withdraw_66 : decode cX10_withdraw 66 = .ok (.aload_n 0, 1) := by decide +kernel
theorem dX10_withdraw_67 : decode cX10_withdraw 67 = .ok (.getfield 117, 3) := by decide +kernel
theorem dX10_withdraw_70 : decode cX10_withdraw 70 = .ok (.iload 4, 2) := by decide +kernel
theorem dX10_withdraw_72 : decode cX10_withdraw 72 = .ok (.aload_n 0, 1) := by decide +kernel
theorem dX10_withdraw_73 : decode cX10_withdraw 73 = .ok (.getfield 371, 3) := by decide +kernel
theorem dX10_withdraw_76 : decode cX10_withdraw 76 = .ok (.iastore, 1) := by decide +kernel
theorem dX10_withdraw_77 : decode cX10_withdraw 77 = .ok (.iinc 3 1, 3) := by decide +kernel
theorem dX10_withdraw_80 : decode cX10_withdraw 80 = .ok (.iinc 4 1, 3) := by decide +kernel
theorem dX10_withdraw_83 : decode cX10_withdraw 83 = .ok (.goto (-48), 3) := by decide +kernel
theorem dX10_withdraw_86 : decode cX10_withdraw 86 = .ok (.iload_n 3, 1) := by decide +kernel
theorem dX10_withdraw_87 : decode cX10_withdraw 87 = .ok (.ireturn, 1) := by decide +kernel
theorem dX10_day_0 : decode cX10_day 0 = .ok (.iload_n 1, 1) := by decide +kernel
theorem dX10_day_1 : decode cX10_day 1 = .ok (.i2l, 1) := by decide +kernel
theorem dX10_day_2 : decode cX10_day 2 = .ok (.aload_n 0, 1) := by decide +kernel
theorem dX10_day_3 : decode cX10_day 3 = .ok (.getfield 371, 3) := by decide +kernel
theorem dX10_day_6 : decode cX10_day 6 = .ok (.i2l, 1) := by decide +kernel
theorem dX10_day_7 : decode cX10_day 7 = .ok (.ldc2_w 389, 3) := by decide +kernel
theorem dX10_day_10 : decode cX10_day 10 = .ok (.invokestatic 138, 3) := by decide +kernel
theorem dX10_day_13 : decode cX10_day 13 = .ok (.ifCond .ne 5, 3) := by decide +kernel
theorem dX10_day_16 : decode cX10_day 16 = .ok (.iconst (-1), 1) := by decide +kernel
theorem dX10_day_17 : decode cX10_day 17 = .ok (.ireturn, 1) := by decide +kernel
theorem dX10_day_18 : decode cX10_day 18 = .ok (.aload_n 0, 1) := by decide +kernel
theorem dX10_day_19 : decode cX10_day 19 = .ok (.getfield 371, 3) := by decide +kernel
theorem dX10_day_22 : decode cX10_day 22 = .ok (.istore_n 2, 1) := by decide +kernel
theorem dX10_day_23 : decode cX10_day 23 = .ok (.aload_n 0, 1) := by decide +kernel
theorem dX10_day_24 : decode cX10_day 24 = .ok (.iload_n 1, 1) := by decide +kernel
theorem dX10_day_25 : decode cX10_day 25 = .ok (.putfield 371, 3) := by decide +kernel
theorem dX10_day_28 : decode cX10_day 28 = .ok (.iload_n 2, 1) := by decide +kernel
theorem dX10_day_29 : decode cX10_day 29 = .ok (.ireturn, 1) := by decide +kernel
theorem dX10_known_0 : decode cX10_known 0 = .ok (.iload_n 1, 1) := by decide +kernel
theorem dX10_known_1 : decode cX10_known 1 = .ok (.i2l, 1) := by decide +kernel
theorem dX10_known_2 : decode cX10_known 2 = .ok (.lconst 0, 1) := by decide +kernel
theorem dX10_known_3 : decode cX10_known 3 = .ok (.ldc2_w 389, 3) := by decide +kernel
theorem dX10_known_6 : decode cX10_known 6 = .ok (.invokestatic 138, 3) := by decide +kernel
theorem dX10_known_9 : decode cX10_known 9 = .ok (.ifCond .eq 15, 3) := by decide +kernel
theorem dX10_known_12 : decode cX10_known 12 = .ok (.iload_n 2, 1) := by decide +kernel
theorem dX10_known_13 : decode cX10_known 13 = .ok (.i2l, 1) := by decide +kernel
theorem dX10_known_14 : decode cX10_known 14 = .ok (.lconst 0, 1) := by decide +kernel
theorem dX10_known_15 : decode cX10_known 15 = .ok (.ldc2_w 198, 3) := by decide +kernel
theorem dX10_known_18 : decode cX10_known 18 = .ok (.invokestatic 138, 3) := by decide +kernel
theorem dX10_known_21 : decode cX10_known 21 = .ok (.ifCond .ne 5, 3) := by decide +kernel
theorem dX10_known_24 : decode cX10_known 24 = .ok (.iconst (-1), 1) := by decide +kernel
theorem dX10_known_25 : decode cX10_known 25 = .ok (.ireturn, 1) := by decide +kernel
theorem dX10_known_26 : decode cX10_known 26 = .ok (.iconst 0, 1) := by decide +kernel
theorem dX10_known_27 : decode cX10_known 27 = .ok (.istore_n 3, 1) := by decide +kernel
theorem dX10_known_28 : decode cX10_known 28 = .ok (.bipush (-4), 2) := by decide +kernel
theorem dX10_known_30 : decode cX10_known 30 = .ok (.istore 4, 2) := by decide +kernel
theorem dX10_known_32 : decode cX10_known 32 = .ok (.bipush (-4), 2) := by decide +kernel
theorem dX10_known_34 : decode cX10_known 34 = .ok (.istore 5, 2) := by decide +kernel
theorem dX10_known_36 : decode cX10_known 36 = .ok (.iconst 0, 1) := by decide +kernel
theorem dX10_known_37 : decode cX10_known 37 = .ok (.istore 6, 2) := by decide +kernel
theorem dX10_known_39 : decode cX10_known 39 = .ok (.iload 6, 2) := by decide +kernel
theorem dX10_known_41 : decode cX10_known 41 = .ok (.aload_n 0, 1) := by decide +kernel
theorem dX10_known_42 : decode cX10_known 42 = .ok (.getfield 374, 3) := by decide +kernel
theorem dX10_known_45 : decode cX10_known 45 = .ok (.if_icmp .ge 66, 3) := by decide +kernel
theorem dX10_known_48 : decode cX10_known 48 = .ok (.aload_n 0, 1) := by decide +kernel
theorem dX10_known_49 : decode cX10_known 49 = .ok (.getfield 114, 3) := by decide +kernel
theorem dX10_known_52 : decode cX10_known 52 = .ok (.iload 6, 2) := by decide +kernel
theorem dX10_known_54 : decode cX10_known 54 = .ok (.iaload, 1) := by decide +kernel
theorem dX10_known_55 : decode cX10_known 55 = .ok (.iload_n 1, 1) := by decide +kernel
theorem dX10_known_56 : decode cX10_known 56 = .ok (.if_icmp .gt 49, 3) := by decide +kernel
theorem dX10_known_59 : decode cX10_known 59 = .ok (.aload_n 0, 1) := by decide +kernel
theorem dX10_known_60 : decode cX10_known 60 = .ok (.getfield 117, 3) := by decide +kernel
theorem dX10_known_63 : decode cX10_known 63 = .ok (.iload 6, 2) := by decide +kernel
theorem dX10_known_65 : decode cX10_known 65 = .ok (.iaload, 1) := by decide +kernel
theorem dX10_known_66 : decode cX10_known 66 = .ok (.bipush (-4), 2) := by decide +kernel
theorem dX10_known_68 : decode cX10_known 68 = .ok (.if_icmp .eq 14, 3) := by decide +kernel
theorem dX10_known_71 : decode cX10_known 71 = .ok (.aload_n 0, 1) := by decide +kernel
theorem dX10_known_72 : decode cX10_known 72 = .ok (.getfield 117, 3) := by decide +kernel
theorem dX10_known_75 : decode cX10_known 75 = .ok (.iload 6, 2) := by decide +kernel
theorem dX10_known_77 : decode cX10_known 77 = .ok (.iaload, 1) := by decide +kernel
theorem dX10_known_78 : decode cX10_known 78 = .ok (.iload_n 1, 1) := by decide +kernel
theorem dX10_known_79 : decode cX10_known 79 = .ok (.if_icmp .le 26, 3) := by decide +kernel
theorem dX10_known_82 : decode cX10_known 82 = .ok (.iinc 3 1, 3) := by decide +kernel
theorem dX10_known_85 : decode cX10_known 85 = .ok (.iload 4, 2) := by decide +kernel
theorem dX10_known_87 : decode cX10_known 87 = .ok (.bipush (-4), 2) := by decide +kernel
theorem dX10_known_89 : decode cX10_known 89 = .ok (.if_icmp .ne 8, 3) := by decide +kernel
theorem dX10_known_92 : decode cX10_known 92 = .ok (.iload 6, 2) := by decide +kernel
theorem dX10_known_94 : decode cX10_known 94 = .ok (.goto 5, 3) := by decide +kernel
theorem dX10_known_97 : decode cX10_known 97 = .ok (.iload 4, 2) := by decide +kernel
theorem dX10_known_99 : decode cX10_known 99 = .ok (.istore 4, 2) := by decide +kernel
theorem dX10_known_101 : decode cX10_known 101 = .ok (.iload 6, 2) := by decide +kernel
theorem dX10_known_103 : decode cX10_known 103 = .ok (.istore 5, 2) := by decide +kernel
theorem dX10_known_105 : decode cX10_known 105 = .ok (.iinc 6 1, 3) := by decide +kernel
theorem dX10_known_108 : decode cX10_known 108 = .ok (.goto (-69), 3) := by decide +kernel
theorem dX10_known_111 : decode cX10_known 111 = .ok (.iload_n 2, 1) := by decide +kernel
theorem dX10_known_112 : decode cX10_known 112 = .ok (.ifCond .ne 7, 3) := by decide +kernel
theorem dX10_known_115 : decode cX10_known 115 = .ok (.iload_n 3, 1) := by decide +kernel
theorem dX10_known_116 : decode cX10_known 116 = .ok (.goto 15, 3) := by decide +kernel
theorem dX10_known_119 : decode cX10_known 119 = .ok (.iload_n 2, 1) := by decide +kernel
theorem dX10_known_120 : decode cX10_known 120 = .ok (.iconst 1, 1) := by decide +kernel
theorem dX10_known_121 : decode cX10_known 121 = .ok (.if_icmp .ne 8, 3) := by decide +kernel
theorem dX10_known_124 : decode cX10_known 124 = .ok (.iload 4, 2) := by decide +kernel
theorem dX10_known_126 : decode cX10_known 126 = .ok (.goto 5, 3) := by decide +kernel
theorem dX10_known_129 : decode cX10_known 129 = .ok (.iload 5, 2) := by decide +kernel
theorem dX10_known_131 : decode cX10_known 131 = .ok (.ireturn, 1) := by decide +kernel
theorem dX10_isSheet_0 : decode cX10_isSheet 0 = .ok (.iload_n 0, 1) := by decide +kernel
theorem dX10_isSheet_1 : decode cX10_isSheet 1 = .ok (.i2l, 1) := by decide +kernel
theorem dX10_isSheet_2 : decode cX10_isSheet 2 = .ok (.lconst 0, 1) := by decide +kernel
theorem dX10_isSheet_3 : decode cX10_isSheet 3 = .ok (.ldc2_w 158, 3) := by decide +kernel
theorem dX10_isSheet_6 : decode cX10_isSheet 6 = .ok (.invokestatic 138, 3) := by decide +kernel
theorem dX10_isSheet_9 : decode cX10_isSheet 9 = .ok (.ifCond .eq 19, 3) := by decide +kernel
theorem dX10_isSheet_12 : decode cX10_isSheet 12 = .ok (.iload_n 1, 1) := by decide +kernel
theorem dX10_isSheet_13 : decode cX10_isSheet 13 = .ok (.i2l, 1) := by decide +kernel
theorem dX10_isSheet_14 : decode cX10_isSheet 14 = .ok (.lconst 0, 1) := by decide +kernel
theorem dX10_isSheet_15 : decode cX10_isSheet 15 = .ok (.ldc2_w 198, 3) := by decide +kernel
theorem dX10_isSheet_18 : decode cX10_isSheet 18 = .ok (.invokestatic 138, 3) := by decide +kernel
theorem dX10_isSheet_21 : decode cX10_isSheet 21 = .ok (.ifCond .eq 7, 3) := by decide +kernel
theorem dX10_isSheet_24 : decode cX10_isSheet 24 = .ok (.iconst 1, 1) := by decide +kernel
theorem dX10_isSheet_25 : decode cX10_isSheet 25 = .ok (.goto 4, 3) := by decide +kernel
theorem dX10_isSheet_28 : decode cX10_isSheet 28 = .ok (.iconst 0, 1) := by decide +kernel
theorem dX10_isSheet_29 : decode cX10_isSheet 29 = .ok (.ireturn, 1) := by decide +kernel
theorem dX10_sheet_0 : decode cX10_sheet 0 = .ok (.iload_n 1, 1) := by decide +kernel
theorem dX10_sheet_1 : decode cX10_sheet 1 = .ok (.iload_n 2, 1) := by decide +kernel
theorem dX10_sheet_2 : decode cX10_sheet 2 = .ok (.invokestatic 391, 3) := by decide +kernel
theorem dX10_sheet_5 : decode cX10_sheet 5 = .ok (.ifCond .eq 9, 3) := by decide +kernel
theorem dX10_sheet_8 : decode cX10_sheet 8 = .ok (.iload_n 3, 1) := by decide +kernel
theorem dX10_sheet_9 : decode cX10_sheet 9 = .ok (.bipush 60, 2) := by decide +kernel
theorem dX10_sheet_11 : decode cX10_sheet 11 = .ok (.if_icmp .le 5, 3) := by decide +kernel
theorem dX10_sheet_14 : decode cX10_sheet 14 = .ok (.iconst (-1), 1) := by decide +kernel
theorem dX10_sheet_15 : decode cX10_sheet 15 = .ok (.ireturn, 1) := by decide +kernel
theorem dX10_sheet_16 : decode cX10_sheet 16 = .ok (.iload_n 3, 1) := by decide +kernel
theorem dX10_sheet_17 : decode cX10_sheet 17 = .ok (.ifCond .ge 6, 3) := by decide +kernel
theorem dX10_sheet_20 : decode cX10_sheet 20 = .ok (.bipush (-14), 2) := by decide +kernel
theorem dX10_sheet_22 : decode cX10_sheet 22 = .ok (.ireturn, 1) := by decide +kernel
theorem dX10_sheet_23 : decode cX10_sheet 23 = .ok (.aload_n 0, 1) := by decide +kernel
theorem dX10_sheet_24 : decode cX10_sheet 24 = .ok (.getfield 126, 3) := by decide +kernel
theorem dX10_sheet_27 : decode cX10_sheet 27 = .ok (.iload_n 1, 1) := by decide +kernel
theorem dX10_sheet_28 : decode cX10_sheet 28 = .ok (.iload_n 2, 1) := by decide +kernel
theorem dX10_sheet_29 : decode cX10_sheet 29 = .ok (.iastore, 1) := by decide +kernel
theorem dX10_sheet_30 : decode cX10_sheet 30 = .ok (.aload_n 0, 1) := by decide +kernel
theorem dX10_sheet_31 : decode cX10_sheet 31 = .ok (.getfield 129, 3) := by decide +kernel
theorem dX10_sheet_34 : decode cX10_sheet 34 = .ok (.iload_n 1, 1) := by decide +kernel
theorem dX10_sheet_35 : decode cX10_sheet 35 = .ok (.iload_n 3, 1) := by decide +kernel
theorem dX10_sheet_36 : decode cX10_sheet 36 = .ok (.iastore, 1) := by decide +kernel
theorem dX10_sheet_37 : decode cX10_sheet 37 = .ok (.iconst 0, 1) := by decide +kernel
theorem dX10_sheet_38 : decode cX10_sheet 38 = .ok (.istore 4, 2) := by decide +kernel
theorem dX10_sheet_40 : decode cX10_sheet 40 = .ok (.iload 4, 2) := by decide +kernel
theorem dX10_sheet_42 : decode cX10_sheet 42 = .ok (.bipush 60, 2) := by decide +kernel
theorem dX10_sheet_44 : decode cX10_sheet 44 = .ok (.if_icmp .ge 22, 3) := by decide +kernel
theorem dX10_sheet_47 : decode cX10_sheet 47 = .ok (.aload_n 0, 1) := by decide +kernel
theorem dX10_sheet_48 : decode cX10_sheet 48 = .ok (.getfield 132, 3) := by decide +kernel
theorem dX10_sheet_51 : decode cX10_sheet 51 = .ok (.bipush 60, 2) := by decide +kernel
theorem dX10_sheet_53 : decode cX10_sheet 53 = .ok (.iload_n 1, 1) := by decide +kernel
theorem dX10_sheet_54 : decode cX10_sheet 54 = .ok (.imul, 1) := by decide +kernel
theorem dX10_sheet_55 : decode cX10_sheet 55 = .ok (.iload 4, 2) := by decide +kernel
theorem dX10_sheet_57 : decode cX10_sheet 57 = .ok (.iadd, 1) := by decide +kernel
theorem dX10_sheet_58 : decode cX10_sheet 58 = .ok (.iconst 0, 1) := by decide +kernel
theorem dX10_sheet_59 : decode cX10_sheet 59 = .ok (.iastore, 1) := by decide +kernel
theorem dX10_sheet_60 : decode cX10_sheet 60 = .ok (.iinc 4 1, 3) := by decide +kernel
theorem dX10_sheet_63 : decode cX10_sheet 63 = .ok (.goto (-23), 3) := by decide +kernel
theorem dX10_sheet_66 : decode cX10_sheet 66 = .ok (.iconst 1, 1) := by decide +kernel
theorem dX10_sheet_67 : decode cX10_sheet 67 = .ok (.ireturn, 1) := by decide +kernel
theorem dX10_lay_0 : decode cX10_lay 0 = .ok (.iload_n 1, 1) := by decide +kernel
theorem dX10_lay_1 : decode cX10_lay 1 = .ok (.iconst 0, 1) := by decide +kernel
theorem dX10_lay_2 : decode cX10_lay 2 = .ok (.invokestatic 391, 3) := by decide +kernel
theorem dX10_lay_5 : decode cX10_lay 5 = .ok (.ifCond .ne 5, 3) := by decide +kernel
theorem dX10_lay_8 : decode cX10_lay 8 = .ok (.iconst (-1), 1) := by decide +kernel
theorem dX10_lay_9 : decode cX10_lay 9 = .ok (.ireturn, 1) := by decide +kernel
theorem dX10_lay_10 : decode cX10_lay 10 = .ok (.aload_n 0, 1) := by decide +kernel
theorem dX10_lay_11 : decode cX10_lay 11 = .ok (.getfield 126, 3) := by decide +kernel
theorem dX10_lay_14 : decode cX10_lay 14 = .ok (.iload_n 1, 1) := by decide +kernel
theorem dX10_lay_15 : decode cX10_lay 15 = .ok (.iaload, 1) := by decide +kernel
theorem dX10_lay_16 : decode cX10_lay 16 = .ok (.bipush (-4), 2) := by decide +kernel
theorem dX10_lay_18 : decode cX10_lay 18 = .ok (.if_icmp .ne 6, 3) := by decide +kernel
theorem dX10_lay_21 : decode cX10_lay 21 = .ok (.bipush (-11), 2) := by decide +kernel
theorem dX10_lay_23 : decode cX10_lay 23 = .ok (.ireturn, 1) := by decide +kernel
theorem dX10_lay_24 : decode cX10_lay 24 = .ok (.iload_n 2, 1) := by decide +kernel
theorem dX10_lay_25 : decode cX10_lay 25 = .ok (.i2l, 1) := by decide +kernel
theorem dX10_lay_26 : decode cX10_lay 26 = .ok (.lconst 0, 1) := by decide +kernel
theorem dX10_lay_27 : decode cX10_lay 27 = .ok (.aload_n 0, 1) := by decide +kernel
theorem dX10_lay_28 : decode cX10_lay 28 = .ok (.getfield 129, 3) := by decide +kernel
theorem dX10_lay_31 : decode cX10_lay 31 = .ok (.iload_n 1, 1) := by decide +kernel
theorem dX10_lay_32 : decode cX10_lay 32 = .ok (.iaload, 1) := by decide +kernel
theorem dX10_lay_33 : decode cX10_lay 33 = .ok (.iconst 1, 1) := by decide +kernel
theorem dX10_lay_34 : decode cX10_lay 34 = .ok (.isub, 1) := by decide +kernel
theorem dX10_lay_35 : decode cX10_lay 35 = .ok (.i2l, 1) := by decide +kernel
theorem dX10_lay_36 : decode cX10_lay 36 = .ok (.invokestatic 138, 3) := by decide +kernel
theorem dX10_lay_39 : decode cX10_lay 39 = .ok (.ifCond .ne 6, 3) := by decide +kernel
theorem dX10_lay_42 : decode cX10_lay 42 = .ok (.bipush (-12), 2) := by decide +kernel
theorem dX10_lay_44 : decode cX10_lay 44 = .ok (.ireturn, 1) := by decide +kernel
theorem dX10_lay_45 : decode cX10_lay 45 = .ok (.aload_n 0, 1) := by decide +kernel
theorem dX10_lay_46 : decode cX10_lay 46 = .ok (.getfield 132, 3) := by decide +kernel
theorem dX10_lay_49 : decode cX10_lay 49 = .ok (.bipush 60, 2) := by decide +kernel
theorem dX10_lay_51 : decode cX10_lay 51 = .ok (.iload_n 1, 1) := by decide +kernel
theorem dX10_lay_52 : decode cX10_lay 52 = .ok (.imul, 1) := by decide +kernel
theorem dX10_lay_53 : decode cX10_lay 53 = .ok (.iload_n 2, 1) := by decide +kernel
theorem dX10_lay_54 : decode cX10_lay 54 = .ok (.iadd, 1) := by decide +kernel
theorem dX10_lay_55 : decode cX10_lay 55 = .ok (.aload_n 0, 1) := by decide +kernel
theorem dX10_lay_56 : decode cX10_lay 56 = .ok (.getfield 126, 3) := by decide +kernel
theorem dX10_lay_59 : decode cX10_lay 59 = .ok (.iload_n 1, 1) := by decide +kernel
theorem dX10_lay_60 : decode cX10_lay 60 = .ok (.iaload, 1) := by decide +kernel
theorem dX10_lay_61 : decode cX10_lay 61 = .ok (.ifCond .ne 8, 3) := by decide +kernel
theorem dX10_lay_64 : decode cX10_lay 64 = .ok (.iload_n 3, 1) := by decide +kernel
theorem dX10_lay_65 : decode cX10_lay 65 = .ok (.i2b, 1) := by decide +kernel
theorem dX10_lay_66 : decode cX10_lay 66 = .ok (.goto 19, 3) := by decide +kernel
theorem dX10_lay_69 : decode cX10_lay 69 = .ok (.aload_n 0, 1) := by decide +kernel
theorem dX10_lay_70 : decode cX10_lay 70 = .ok (.getfield 126, 3) := by decide +kernel
theorem dX10_lay_73 : decode cX10_lay 73 = .ok (.iload_n 1, 1) := by decide +kernel
theorem dX10_lay_74 : decode cX10_lay 74 = .ok (.iaload, 1) := by decide +kernel
theorem dX10_lay_75 : decode cX10_lay 75 = .ok (.iconst 1, 1) := by decide +kernel
theorem dX10_lay_76 : decode cX10_lay 76 = .ok (.if_icmp .ne 8, 3) := by decide +kernel
theorem dX10_lay_79 : decode cX10_lay 79 = .ok (.iload_n 3, 1) := by decide +kernel
theorem dX10_lay_80 : decode cX10_lay 80 = .ok (.i2s, 1) := by decide +kernel
theorem dX10_lay_81 : decode cX10_lay 81 = .ok (.goto 4, 3) := by decide +kernel
theorem dX10_lay_84 : decode cX10_lay 84 = .ok (.iload_n 3, 1) := by decide +kernel
theorem dX10_lay_85 : decode cX10_lay 85 = .ok (.iastore, 1) := by decide +kernel
theorem dX10_lay_86 : decode cX10_lay 86 = .ok (.iconst 1, 1) := by decide +kernel
theorem dX10_lay_87 : decode cX10_lay 87 = .ok (.ireturn, 1) := by decide +kernel
theorem dX10_text_0 : decode cX10_text 0 = .ok (.iload_n 1, 1) := by decide +kernel
theorem dX10_text_1 : decode cX10_text 1 = .ok (.iload_n 2, 1) := by decide +kernel
theorem dX10_text_2 : decode cX10_text 2 = .ok (.invokestatic 391, 3) := by decide +kernel
theorem dX10_text_5 : decode cX10_text 5 = .ok (.ifCond .eq 16, 3) := by decide +kernel
theorem dX10_text_8 : decode cX10_text 8 = .ok (.iload 4, 2) := by decide +kernel
theorem dX10_text_10 : decode cX10_text 10 = .ok (.i2l, 1) := by decide +kernel
theorem dX10_text_11 : decode cX10_text 11 = .ok (.lconst 1, 1) := by decide +kernel
theorem dX10_text_12 : decode cX10_text 12 = .ok (.ldc2_w 395, 3) := by decide +kernel
theorem dX10_text_15 : decode cX10_text 15 = .ok (.invokestatic 138, 3) := by decide +kernel
theorem dX10_text_18 : decode cX10_text 18 = .ok (.ifCond .ne 5, 3) := by decide +kernel
theorem dX10_text_21 : decode cX10_text 21 = .ok (.iconst (-1), 1) := by decide +kernel
theorem dX10_text_22 : decode cX10_text 22 = .ok (.ireturn, 1) := by decide +kernel
theorem dX10_text_23 : decode cX10_text 23 = .ok (.aload_n 0, 1) := by decide +kernel
theorem dX10_text_24 : decode cX10_text 24 = .ok (.getfield 126, 3) := by decide +kernel
theorem dX10_text_27 : decode cX10_text 27 = .ok (.iload_n 1, 1) := by decide +kernel
theorem dX10_text_28 : decode cX10_text 28 = .ok (.iaload, 1) := by decide +kernel
theorem dX10_text_29 : decode cX10_text 29 = .ok (.iload_n 2, 1) := by decide +kernel
theorem dX10_text_30 : decode cX10_text 30 = .ok (.if_icmp .eq 22, 3) := by decide +kernel
theorem dX10_text_33 : decode cX10_text 33 = .ok (.aload_n 0, 1) := by decide +kernel
theorem dX10_text_34 : decode cX10_text 34 = .ok (.getfield 126, 3) := by decide +kernel
theorem dX10_text_37 : decode cX10_text 37 = .ok (.iload_n 1, 1) := by decide +kernel
theorem dX10_text_38 : decode cX10_text 38 = .ok (.iaload, 1) := by decide +kernel
theorem dX10_text_39 : decode cX10_text 39 = .ok (.bipush (-4), 2) := by decide +kernel
theorem dX10_text_41 : decode cX10_text 41 = .ok (.if_icmp .ne 8, 3) := by decide +kernel
theorem dX10_text_44 : decode cX10_text 44 = .ok (.bipush (-11), 2) := by decide +kernel
theorem dX10_text_46 : decode cX10_text 46 = .ok (.goto 5, 3) := by decide +kernel
theorem dX10_text_49 : decode cX10_text 49 = .ok (.bipush (-13), 2) := by decide +kernel
theorem dX10_text_51 : decode cX10_text 51 = .ok (.ireturn, 1) := by decide +kernel
theorem dX10_text_52 : decode cX10_text 52 = .ok (.iconst 0, 1) := by decide +kernel
theorem dX10_text_53 : decode cX10_text 53 = .ok (.istore 5, 2) := by decide +kernel
theorem dX10_text_55 : decode cX10_text 55 = .ok (.iload 5, 2) := by decide +kernel
theorem dX10_text_57 : decode cX10_text 57 = .ok (.iload 4, 2) := by decide +kernel
theorem dX10_text_59 : decode cX10_text 59 = .ok (.if_icmp .ge 76, 3) := by decide +kernel
theorem dX10_text_62 : decode cX10_text 62 = .ok (.iload_n 3, 1) := by decide +kernel
theorem dX10_text_63 : decode cX10_text 63 = .ok (.i2l, 1) := by decide +kernel
theorem dX10_text_64 : decode cX10_text 64 = .ok (.iload 5, 2) := by decide +kernel
theorem dX10_text_66 : decode cX10_text 66 = .ok (.i2l, 1) := by decide +kernel
theorem dX10_text_67 : decode cX10_text 67 = .ok (.ladd, 1) := by decide +kernel
theorem dX10_text_68 : decode cX10_text 68 = .ok (.lstore 6, 2) := by decide +kernel
theorem dX10_text_70 : decode cX10_text 70 = .ok (.lload 6, 2) := by decide +kernel
theorem dX10_text_72 : decode cX10_text 72 = .ok (.lconst 0, 1) := by decide +kernel
theorem dX10_text_73 : decode cX10_text 73 = .ok (.lcmp, 1) := by decide +kernel
theorem dX10_text_74 : decode cX10_text 74 = .ok (.ifCond .lt 16, 3) := by decide +kernel
theorem dX10_text_77 : decode cX10_text 77 = .ok (.lload 6, 2) := by decide +kernel
theorem dX10_text_79 : decode cX10_text 79 = .ok (.aload_n 0, 1) := by decide +kernel
theorem dX10_text_80 : decode cX10_text 80 = .ok (.getfield 129, 3) := by decide +kernel
theorem dX10_text_83 : decode cX10_text 83 = .ok (.iload_n 1, 1) := by decide +kernel
theorem dX10_text_84 : decode cX10_text 84 = .ok (.iaload, 1) := by decide +kernel
theorem dX10_text_85 : decode cX10_text 85 = .ok (.i2l, 1) := by decide +kernel
theorem dX10_text_86 : decode cX10_text 86 = .ok (.lcmp, 1) := by decide +kernel
theorem dX10_text_87 : decode cX10_text 87 = .ok (.ifCond .lt 6, 3) := by decide +kernel
theorem dX10_text_90 : decode cX10_text 90 = .ok (.bipush (-12), 2) := by decide +kernel
theorem dX10_text_92 : decode cX10_text 92 = .ok (.ireturn, 1) := by decide +kernel
theorem dX10_text_93 : decode cX10_text 93 = .ok (.aload_n 0, 1) := by decide +kernel
theorem dX10_text_94 : decode cX10_text 94 = .ok (.getfield 132, 3) := by decide +kernel
theorem dX10_text_97 : decode cX10_text 97 = .ok (.bipush 60, 2) := by decide +kernel
theorem dX10_text_99 : decode cX10_text 99 = .ok (.iload_n 1, 1) := by decide +kernel
theorem dX10_text_100 : decode cX10_text 100 = .ok (.imul, 1) := by decide +kernel
theorem dX10_text_101 : decode cX10_text 101 = .ok (.lload 6, 2) := by decide +kernel
theorem dX10_text_103 : decode cX10_text 103 = .ok (.l2i, 1) := by decide +kernel
theorem dX10_text_104 : decode cX10_text 104 = .ok (.iadd, 1) := by decide +kernel
theorem dX10_text_105 : decode cX10_text 105 = .ok (.iaload, 1) := by decide +kernel
theorem dX10_text_106 : decode cX10_text 106 = .ok (.i2l, 1) := by decide +kernel
theorem dX10_text_107 : decode cX10_text 107 = .ok (.ldc2_w 397, 3) := by decide +kernel
theorem dX10_text_110 : decode cX10_text 110 = .ok (.aload_n 0, 1) := by decide +kernel
theorem dX10_text_111 : decode cX10_text 111 = .ok (.getfield 135, 3) := by decide +kernel
theorem dX10_text_114 : decode cX10_text 114 = .ok (.iconst 1, 1) := by decide +kernel
theorem dX10_text_115 : decode cX10_text 115 = .ok (.isub, 1) := by decide +kernel
theorem dX10_text_116 : decode cX10_text 116 = .ok (.i2l, 1) := by decide +kernel
theorem dX10_text_117 : decode cX10_text 117 = .ok (.invokestatic 138, 3) := by decide +kernel
theorem dX10_text_120 : decode cX10_text 120 = .ok (.ifCond .ne 9, 3) := by decide +kernel
theorem dX10_text_123 : decode cX10_text 123 = .ok (.bipush (-20), 2) := by decide +kernel
theorem dX10_text_125 : decode cX10_text 125 = .ok (.iload 5, 2) := by decide +kernel
theorem dX10_text_127 : decode cX10_text 127 = .ok (.isub, 1) := by decide +kernel
theorem dX10_text_128 : decode cX10_text 128 = .ok (.ireturn, 1) := by decide +kernel
theorem dX10_text_129 : decode cX10_text 129 = .ok (.iinc 5 1, 3) := by decide +kernel
theorem dX10_text_132 : decode cX10_text 132 = .ok (.goto (-77), 3) := by decide +kernel
theorem dX10_text_135 : decode cX10_text 135 = .ok (.aload_n 0, 1) := by decide +kernel
theorem dX10_text_136 : decode cX10_text 136 = .ok (.getfield 164, 3) := by decide +kernel
theorem dX10_text_139 : decode cX10_text 139 = .ok (.bipush 8, 2) := by decide +kernel
theorem dX10_text_141 : decode cX10_text 141 = .ok (.if_icmp .ne 6, 3) := by decide +kernel
theorem dX10_text_144 : decode cX10_text 144 = .ok (.bipush (-3), 2) := by decide +kernel
theorem dX10_text_146 : decode cX10_text 146 = .ok (.ireturn, 1) := by decide +kernel
theorem dX10_text_147 : decode cX10_text 147 = .ok (.iconst 0, 1) := by decide +kernel
theorem dX10_text_148 : decode cX10_text 148 = .ok (.istore 5, 2) := by decide +kernel
theorem dX10_text_150 : decode cX10_text 150 = .ok (.iload 5, 2) := by decide +kernel
theorem dX10_text_152 : decode cX10_text 152 = .ok (.iload 4, 2) := by decide +kernel
theorem dX10_text_154 : decode cX10_text 154 = .ok (.if_icmp .ge 38, 3) := by decide +kernel
theorem dX10_text_157 : decode cX10_text 157 = .ok (.aload_n 0, 1) := by decide +kernel
theorem dX10_text_158 : decode cX10_text 158 = .ok (.getfield 23, 3) := by decide +kernel
theorem dX10_text_161 : decode cX10_text 161 = .ok (.bipush 24, 2) := by decide +kernel
theorem dX10_text_163 : decode cX10_text 163 = .ok (.aload_n 0, 1) := by decide +kernel
theorem dX10_text_164 : decode cX10_text 164 = .ok (.getfield 164, 3) := by decide +kernel
theorem dX10_text_167 : decode cX10_text 167 = .ok (.imul, 1) := by decide +kernel
theorem dX10_text_168 : decode cX10_text 168 = .ok (.iload 5, 2) := by decide +kernel
theorem dX10_text_170 : decode cX10_text 170 = .ok (.iadd, 1) := by decide +kernel
theorem dX10_text_171 : decode cX10_text 171 = .ok (.aload_n 0, 1) := by decide +kernel
theorem dX10_text_172 : decode cX10_text 172 = .ok (.getfield 132, 3) := by decide +kernel
theorem dX10_text_175 : decode cX10_text 175 = .ok (.bipush 60, 2) := by decide +kernel
theorem dX10_text_177 : decode cX10_text 177 = .ok (.iload_n 1, 1) := by decide +kernel
theorem dX10_text_178 : decode cX10_text 178 = .ok (.imul, 1) := by decide +kernel
theorem dX10_text_179 : decode cX10_text 179 = .ok (.iload_n 3, 1) := by decide +kernel
theorem dX10_text_180 : decode cX10_text 180 = .ok (.iadd, 1) := by decide +kernel
theorem dX10_text_181 : decode cX10_text 181 = .ok (.iload 5, 2) := by decide +kernel
theorem dX10_text_183 : decode cX10_text 183 = .ok (.iadd, 1) := by decide +kernel
theorem dX10_text_184 : decode cX10_text 184 = .ok (.iaload, 1) := by decide +kernel
theorem dX10_text_185 : decode cX10_text 185 = .ok (.iastore, 1) := by decide +kernel
theorem dX10_text_186 : decode cX10_text 186 = .ok (.iinc 5 1, 3) := by decide +kernel
theorem dX10_text_189 : decode cX10_text 189 = .ok (.goto (-39), 3) := by decide +kernel
theorem dX10_text_192 : decode cX10_text 192 = .ok (.aload_n 0, 1) := by decide +kernel
theorem dX10_text_193 : decode cX10_text 193 = .ok (.getfield 20, 3) := by decide +kernel
theorem dX10_text_196 : decode cX10_text 196 = .ok (.aload_n 0, 1) := by decide +kernel
theorem dX10_text_197 : decode cX10_text 197 = .ok (.getfield 164, 3) := by decide +kernel
theorem dX10_text_200 : decode cX10_text 200 = .ok (.iload 4, 2) := by decide +kernel
theorem dX10_text_202 : decode cX10_text 202 = .ok (.iastore, 1) := by decide +kernel
theorem dX10_text_203 : decode cX10_text 203 = .ok (.aload_n 0, 1) := by decide +kernel
theorem dX10_text_204 : decode cX10_text 204 = .ok (.dup, 1) := by decide +kernel
theorem dX10_text_205 : decode cX10_text 205 = .ok (.getfield 164, 3) := by decide +kernel
theorem dX10_text_208 : decode cX10_text 208 = .ok (.iconst 1, 1) := by decide +kernel
theorem dX10_text_209 : decode cX10_text 209 = .ok (.iadd, 1) := by decide +kernel
theorem dX10_text_210 : decode cX10_text 210 = .ok (.putfield 164, 3) := by decide +kernel
theorem dX10_text_213 : decode cX10_text 213 = .ok (.aload_n 0, 1) := by decide +kernel
theorem dX10_text_214 : decode cX10_text 214 = .ok (.getfield 164, 3) := by decide +kernel
theorem dX10_text_217 : decode cX10_text 217 = .ok (.iconst 1, 1) := by decide +kernel
theorem dX10_text_218 : decode cX10_text 218 = .ok (.isub, 1) := by decide +kernel
theorem dX10_text_219 : decode cX10_text 219 = .ok (.ireturn, 1) := by decide +kernel
theorem dX10_count_0 : decode cX10_count 0 = .ok (.iconst 0, 1) := by decide +kernel
theorem dX10_count_1 : decode cX10_count 1 = .ok (.istore_n 2, 1) := by decide +kernel
theorem dX10_count_2 : decode cX10_count 2 = .ok (.iconst 0, 1) := by decide +kernel
theorem dX10_count_3 : decode cX10_count 3 = .ok (.istore_n 3, 1) := by decide +kernel
theorem dX10_count_4 : decode cX10_count 4 = .ok (.iload_n 3, 1) := by decide +kernel
theorem dX10_count_5 : decode cX10_count 5 = .ok (.aload_n 0, 1) := by decide +kernel
theorem dX10_count_6 : decode cX10_count 6 = .ok (.getfield 374, 3) := by decide +kernel
theorem dX10_count_9 : decode cX10_count 9 = .ok (.if_icmp .ge 28, 3) := by decide +kernel
theorem dX10_count_12 : decode cX10_count 12 = .ok (.iload_n 2, 1) := by decide +kernel
theorem dX10_count_13 : decode cX10_count 13 = .ok (.aload_n 0, 1) := by decide +kernel
theorem dX10_count_14 : decode cX10_count 14 = .ok (.getfield 117, 3) := by decide +kernel
theorem dX10_count_17 : decode cX10_count 17 = .ok (.iload_n 3, 1) := by decide +kernel
theorem dX10_count_18 : decode cX10_count 18 = .ok (.iaload, 1) := by decide +kernel
theorem dX10_count_19 : decode cX10_count 19 = .ok (.bipush (-4), 2) := by decide +kernel
theorem dX10_count_21 : decode cX10_count 21 = .ok (.if_icmp .ne 7, 3) := by decide +kernel
theorem dX10_count_24 : decode cX10_count 24 = .ok (.iconst 0, 1) := by decide +kernel
theorem dX10_count_25 : decode cX10_count 25 = .ok (.goto 4, 3) := by decide +kernel
theorem dX10_count_28 : decode cX10_count 28 = .ok (.iconst 1, 1) := by decide +kernel
theorem dX10_count_29 : decode cX10_count 29 = .ok (.iadd, 1) := by decide +kernel
theorem dX10_count_30 : decode cX10_count 30 = .ok (.istore_n 2, 1) := by decide +kernel
theorem dX10_count_31 : decode cX10_count 31 = .ok (.iinc 3 1, 3) := by decide +kernel
theorem dX10_count_34 : decode cX10_count 34 = .ok (.goto (-30), 3) := by decide +kernel
theorem dX10_count_37 : decode cX10_count 37 = .ok (.iload_n 1, 1) := by decide +kernel
theorem dX10_count_38 : decode cX10_count 38 = .ok (.tableswitch 136 0 10 #[58, 63, 68, 81, 86, 91, 96, 101, 103, 108, 113], 58) := by decide +kernel
theorem dX10_count_96 : decode cX10_count 96 = .ok (.aload_n 0, 1) := by decide +kernel
theorem dX10_count_97 : decode cX10_count 97 = .ok (.getfield 135, 3) := by decide +kernel
theorem dX10_count_100 : decode cX10_count 100 = .ok (.ireturn, 1) := by decide +kernel
theorem dX10_count_101 : decode cX10_count 101 = .ok (.aload_n 0, 1) := by decide +kernel
theorem dX10_count_102 : decode cX10_count 102 = .ok (.getfield 164, 3) := by decide +kernel
theorem dX10_count_105 : decode cX10_count 105 = .ok (.ireturn, 1) := by decide +kernel
theorem dX10_count_106 : decode cX10_count 106 = .ok (.aload_n 0, 1) := by decide +kernel
theorem dX10_count_107 : decode cX10_count 107 = .ok (.aload_n 0, 1) := by decide +kernel
theorem dX10_count_108 : decode cX10_count 108 = .ok (.getfield 13, 3) := by decide +kernel
theorem dX10_count_111 : decode cX10_count 111 = .ok (.invokevirtual 150, 3) := by decide +kernel
theorem dX10_count_114 : decode cX10_count 114 = .ok (.aload_n 0, 1) := by decide +kernel
theorem dX10_count_115 : decode cX10_count 115 = .ok (.invokevirtual 195, 3) := by decide +kernel
theorem dX10_count_118 : decode cX10_count 118 = .ok (.ireturn, 1) := by decide +kernel
theorem dX10_count_119 : decode cX10_count 119 = .ok (.aload_n 0, 1) := by decide +kernel
theorem dX10_count_120 : decode cX10_count 120 = .ok (.getfield 240, 3) := by decide +kernel
theorem dX10_count_123 : decode cX10_count 123 = .ok (.ireturn, 1) := by decide +kernel
theorem dX10_count_124 : decode cX10_count 124 = .ok (.aload_n 0, 1) := by decide +kernel
theorem dX10_count_125 : decode cX10_count 125 = .ok (.getfield 260, 3) := by decide +kernel
theorem dX10_count_128 : decode cX10_count 128 = .ok (.ireturn, 1) := by decide +kernel
theorem dX10_count_129 : decode cX10_count 129 = .ok (.aload_n 0, 1) := by decide +kernel
theorem dX10_count_130 : decode cX10_count 130 = .ok (.getfield 279, 3) := by decide +kernel
theorem dX10_count_133 : decode cX10_count 133 = .ok (.ireturn, 1) := by decide +kernel
theorem dX10_count_134 : decode cX10_count 134 = .ok (.aload_n 0, 1) := by decide +kernel
theorem dX10_count_135 : decode cX10_count 135 = .ok (.getfield 374, 3) := by decide +kernel
theorem dX10_count_138 : decode cX10_count 138 = .ok (.ireturn, 1) := by decide +kernel
theorem dX10_count_139 : decode cX10_count 139 = .ok (.iload_n 2, 1) := by decide +kernel
theorem dX10_count_140 : decode cX10_count 140 = .ok (.ireturn, 1) := by decide +kernel
theorem dX10_count_141 : decode cX10_count 141 = .ok (.aload_n 0, 1) := by decide +kernel
theorem dX10_count_142 : decode cX10_count 142 = .ok (.getfield 371, 3) := by decide +kernel
theorem dX10_count_145 : decode cX10_count 145 = .ok (.ireturn, 1) := by decide +kernel
theorem dX10_count_146 : decode cX10_count 146 = .ok (.aload_n 0, 1) := by decide +kernel
theorem dX10_count_147 : decode cX10_count 147 = .ok (.getfield 321, 3) := by decide +kernel
theorem dX10_count_150 : decode cX10_count 150 = .ok (.ireturn, 1) := by decide +kernel
theorem dX10_count_151 : decode cX10_count 151 = .ok (.aload_n 0, 1) := by decide +kernel
theorem dX10_count_152 : decode cX10_count 152 = .ok (.getfield 126, 3) := by decide +kernel
theorem dX10_count_155 : decode cX10_count 155 = .ok (.iconst 0, 1) := by decide +kernel
theorem dX10_count_156 : decode cX10_count 156 = .ok (.iaload, 1) := by decide +kernel
theorem dX10_count_157 : decode cX10_count 157 = .ok (.bipush (-4), 2) := by decide +kernel
theorem dX10_count_159 : decode cX10_count 159 = .ok (.if_icmp .ne 8, 3) := by decide +kernel
theorem dX10_count_162 : decode cX10_count 162 = .ok (.bipush (-4), 2) := by decide +kernel
theorem dX10_count_164 : decode cX10_count 164 = .ok (.goto 9, 3) := by decide +kernel
theorem dX10_count_167 : decode cX10_count 167 = .ok (.aload_n 0, 1) := by decide +kernel
theorem dX10_count_168 : decode cX10_count 168 = .ok (.getfield 129, 3) := by decide +kernel
theorem dX10_count_171 : decode cX10_count 171 = .ok (.iconst 0, 1) := by decide +kernel
theorem dX10_count_172 : decode cX10_count 172 = .ok (.iaload, 1) := by decide +kernel
theorem dX10_count_173 : decode cX10_count 173 = .ok (.ireturn, 1) := by decide +kernel
theorem dX10_count_174 : decode cX10_count 174 = .ok (.iconst (-1), 1) := by decide +kernel
theorem dX10_count_175 : decode cX10_count 175 = .ok (.ireturn, 1) := by decide +kernel
