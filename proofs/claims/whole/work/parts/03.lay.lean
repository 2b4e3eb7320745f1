/-! ===== the cells of the class and of the reference, 0 .. 285, at the addresses ad 0 .. : what each is ===== -/
abbrev Sg : Type := (Nat → Nat → Int32) × (Nat → Nat → Int64)
abbrev LE : Type := (Nat × Nat) ⊕ (Nat × List (Option Nat))
def KC : Nat := 286
def layL : List LE := ([.inr (9, [some 1, some 5, some 22, some 102, some 115, some 122, some 228, some 230, some 237]), .inr (2, [some 2, some 3, some 4, none, none]), .inl (0, 24), .inl (0, 24), .inl (0, 24), .inr (7, [some 1, some 6, some 7, some 16, none, some 17, some 18, some 19, some 20, none, some 21]), .inl (0, 24), .inl (12, 8)]) ++ (List.replicate 8 (.inl (0, 24))) ++ ([.inl (0, 8), .inl (0, 96), .inl (0, 96), .inl (0, 96), .inl (1, 96), .inl (0, 24), .inr (3, [some 1, some 5, some 23, some 48, some 73, some 98, some 99, some 100, some 101, none, none]), .inl (28, 24)]) ++ (List.replicate 24 (.inl (0, 24))) ++ ([.inl (53, 24)]) ++ (List.replicate 24 (.inl (0, 24))) ++ ([.inl (78, 24)]) ++ (List.replicate 24 (.inl (0, 24))) ++ ([.inl (0, 96), .inl (0, 8), .inl (0, 8), .inl (0, 8), .inr (0, [some 103, none, some 112, some 113, some 114, none]), .inl (108, 8)]) ++ (List.replicate 11 (.inl (0, 4))) ++ ([.inr (4, [some 5, some 116, some 121, none]), .inl (121, 4)]) ++ (List.replicate 4 (.inl (0, 8))) ++ ([.inl (0, 4), .inr (8, [some 5, some 123, none, some 124, none, some 125, some 126, some 127, some 224, none, some 225, some 226, none, none, some 227]), .inl (3, 128), .inl (0, 6), .inl (0, 24), .inl (0, 24), .inl (132, 96)]) ++ (List.replicate 96 (.inl (0, 6))) ++ ([.inl (0, 96), .inl (0, 6), .inl (0, 6), .inl (0, 6), .inr (6, [some 229, none, none, none, none]), .inl (2, 160), .inr (1, [some 228, some 231, some 232, some 233, some 234, some 235, some 236, none, none, none, none, none])]) ++ (List.replicate 6 (.inl (0, 20))) ++ ([.inr (5, [some 238, some 239, some 240]), .inl (0, 4), .inl (0, 4), .inl (245, 4)]) ++ (List.replicate 4 (.inl (0, 60))) ++ ([.inr (10, [none, some 246, none, some 247, none, some 248, some 249, none, some 250, some 251, some 252, some 253, some 254, some 255, some 256, none, some 257, some 258, some 259, some 260, none, some 261, some 262, some 263, none, some 264, some 265, none, some 266, some 267, none, some 268, some 269, none, some 270, some 271, none, some 272, some 273, some 274, none, none, none, some 275, some 276, none, none, none, none, none, none, none, none, some 277, some 278, some 279, some 280, some 281, none, some 282, some 283, some 284, some 285]), .inl (0, 24), .inl (0, 24), .inl (0, 8), .inl (0, 192), .inl (0, 104), .inl (0, 104), .inl (0, 104), .inl (1, 104), .inl (0, 24), .inl (0, 576), .inl (0, 576), .inl (0, 8), .inl (0, 64)]) ++ (List.replicate 4 (.inl (0, 8))) ++ ([.inl (0, 4), .inl (0, 4), .inl (1, 32), .inl (0, 4), .inl (0, 4), .inl (0, 12), .inl (0, 12), .inl (0, 6), .inl (0, 24), .inl (0, 104), .inl (0, 104), .inl (1, 28672), .inl (0, 6), .inl (0, 160)]) ++ (List.replicate 6 (.inl (0, 20))) ++ ([.inl (0, 4), .inl (0, 4), .inl (0, 240)])
def lay (k : Nat) : LE := layL.getD k (.inl (0, 0))
set_option maxRecDepth 100000 in
theorem layL_len : layL.length = KC := by decide +kernel

set_option maxRecDepth 100000 in
theorem layr_8 : ∀ i : Nat, i < 8 → lay (8 + i) = .inl (0, 24) ∧ 8 + i < KC := by decide +kernel
set_option maxRecDepth 100000 in
theorem layr_24 : ∀ i : Nat, i < 24 → lay (24 + i) = .inl (0, 24) ∧ 24 + i < KC := by decide +kernel
set_option maxRecDepth 100000 in
theorem layr_49 : ∀ i : Nat, i < 24 → lay (49 + i) = .inl (0, 24) ∧ 49 + i < KC := by decide +kernel
set_option maxRecDepth 100000 in
theorem layr_74 : ∀ i : Nat, i < 24 → lay (74 + i) = .inl (0, 24) ∧ 74 + i < KC := by decide +kernel
set_option maxRecDepth 100000 in
theorem layr_104 : ∀ i : Nat, i < 8 → lay (104 + i) = .inl (0, 4) ∧ 104 + i < KC := by decide +kernel
set_option maxRecDepth 100000 in
theorem layr_117 : ∀ i : Nat, i < 4 → lay (117 + i) = .inl (0, 8) ∧ 117 + i < KC := by decide +kernel
set_option maxRecDepth 100000 in
theorem layr_128 : ∀ i : Nat, i < 96 → lay (128 + i) = .inl (0, 6) ∧ 128 + i < KC := by decide +kernel
set_option maxRecDepth 100000 in
theorem layr_241 : ∀ i : Nat, i < 4 → lay (241 + i) = .inl (0, 60) ∧ 241 + i < KC := by decide +kernel
set_option maxRecDepth 100000 in
theorem lay_0 : lay 0 = .inr (9, [some 1, some 5, some 22, some 102, some 115, some 122, some 228, some 230, some 237]) := by decide +kernel
set_option maxRecDepth 100000 in
theorem lay_1 : lay 1 = .inr (2, [some 2, some 3, some 4, none, none]) := by decide +kernel
set_option maxRecDepth 100000 in
theorem lay_2 : lay 2 = .inl (0, 24) := by decide +kernel
set_option maxRecDepth 100000 in
theorem lay_3 : lay 3 = .inl (0, 24) := by decide +kernel
set_option maxRecDepth 100000 in
theorem lay_4 : lay 4 = .inl (0, 24) := by decide +kernel
set_option maxRecDepth 100000 in
theorem lay_5 : lay 5 = .inr (7, [some 1, some 6, some 7, some 16, none, some 17, some 18, some 19, some 20, none, some 21]) := by decide +kernel
set_option maxRecDepth 100000 in
theorem lay_6 : lay 6 = .inl (0, 24) := by decide +kernel
set_option maxRecDepth 100000 in
theorem lay_7 : lay 7 = .inl (12, 8) := by decide +kernel
set_option maxRecDepth 100000 in
theorem lay_16 : lay 16 = .inl (0, 8) := by decide +kernel
set_option maxRecDepth 100000 in
theorem lay_17 : lay 17 = .inl (0, 96) := by decide +kernel
set_option maxRecDepth 100000 in
theorem lay_18 : lay 18 = .inl (0, 96) := by decide +kernel
set_option maxRecDepth 100000 in
theorem lay_19 : lay 19 = .inl (0, 96) := by decide +kernel
set_option maxRecDepth 100000 in
theorem lay_20 : lay 20 = .inl (1, 96) := by decide +kernel
set_option maxRecDepth 100000 in
theorem lay_21 : lay 21 = .inl (0, 24) := by decide +kernel
set_option maxRecDepth 100000 in
theorem lay_22 : lay 22 = .inr (3, [some 1, some 5, some 23, some 48, some 73, some 98, some 99, some 100, some 101, none, none]) := by decide +kernel
set_option maxRecDepth 100000 in
theorem lay_23 : lay 23 = .inl (28, 24) := by decide +kernel
set_option maxRecDepth 100000 in
theorem lay_48 : lay 48 = .inl (53, 24) := by decide +kernel
set_option maxRecDepth 100000 in
theorem lay_73 : lay 73 = .inl (78, 24) := by decide +kernel
set_option maxRecDepth 100000 in
theorem lay_98 : lay 98 = .inl (0, 96) := by decide +kernel
set_option maxRecDepth 100000 in
theorem lay_99 : lay 99 = .inl (0, 8) := by decide +kernel
set_option maxRecDepth 100000 in
theorem lay_100 : lay 100 = .inl (0, 8) := by decide +kernel
set_option maxRecDepth 100000 in
theorem lay_101 : lay 101 = .inl (0, 8) := by decide +kernel
set_option maxRecDepth 100000 in
theorem lay_102 : lay 102 = .inr (0, [some 103, none, some 112, some 113, some 114, none]) := by decide +kernel
set_option maxRecDepth 100000 in
theorem lay_103 : lay 103 = .inl (108, 8) := by decide +kernel
set_option maxRecDepth 100000 in
theorem lay_112 : lay 112 = .inl (0, 4) := by decide +kernel
set_option maxRecDepth 100000 in
theorem lay_113 : lay 113 = .inl (0, 4) := by decide +kernel
set_option maxRecDepth 100000 in
theorem lay_114 : lay 114 = .inl (0, 4) := by decide +kernel
set_option maxRecDepth 100000 in
theorem lay_115 : lay 115 = .inr (4, [some 5, some 116, some 121, none]) := by decide +kernel
set_option maxRecDepth 100000 in
theorem lay_116 : lay 116 = .inl (121, 4) := by decide +kernel
set_option maxRecDepth 100000 in
theorem lay_121 : lay 121 = .inl (0, 4) := by decide +kernel
set_option maxRecDepth 100000 in
theorem lay_122 : lay 122 = .inr (8, [some 5, some 123, none, some 124, none, some 125, some 126, some 127, some 224, none, some 225, some 226, none, none, some 227]) := by decide +kernel
set_option maxRecDepth 100000 in
theorem lay_123 : lay 123 = .inl (3, 128) := by decide +kernel
set_option maxRecDepth 100000 in
theorem lay_124 : lay 124 = .inl (0, 6) := by decide +kernel
set_option maxRecDepth 100000 in
theorem lay_125 : lay 125 = .inl (0, 24) := by decide +kernel
set_option maxRecDepth 100000 in
theorem lay_126 : lay 126 = .inl (0, 24) := by decide +kernel
set_option maxRecDepth 100000 in
theorem lay_127 : lay 127 = .inl (132, 96) := by decide +kernel
set_option maxRecDepth 100000 in
theorem lay_224 : lay 224 = .inl (0, 96) := by decide +kernel
set_option maxRecDepth 100000 in
theorem lay_225 : lay 225 = .inl (0, 6) := by decide +kernel
set_option maxRecDepth 100000 in
theorem lay_226 : lay 226 = .inl (0, 6) := by decide +kernel
set_option maxRecDepth 100000 in
theorem lay_227 : lay 227 = .inl (0, 6) := by decide +kernel
set_option maxRecDepth 100000 in
theorem lay_228 : lay 228 = .inr (6, [some 229, none, none, none, none]) := by decide +kernel
set_option maxRecDepth 100000 in
theorem lay_229 : lay 229 = .inl (2, 160) := by decide +kernel
set_option maxRecDepth 100000 in
theorem lay_230 : lay 230 = .inr (1, [some 228, some 231, some 232, some 233, some 234, some 235, some 236, none, none, none, none, none]) := by decide +kernel
set_option maxRecDepth 100000 in
theorem lay_231 : lay 231 = .inl (0, 20) := by decide +kernel
set_option maxRecDepth 100000 in
theorem lay_232 : lay 232 = .inl (0, 20) := by decide +kernel
set_option maxRecDepth 100000 in
theorem lay_233 : lay 233 = .inl (0, 20) := by decide +kernel
set_option maxRecDepth 100000 in
theorem lay_234 : lay 234 = .inl (0, 20) := by decide +kernel
set_option maxRecDepth 100000 in
theorem lay_235 : lay 235 = .inl (0, 20) := by decide +kernel
set_option maxRecDepth 100000 in
theorem lay_236 : lay 236 = .inl (0, 20) := by decide +kernel
set_option maxRecDepth 100000 in
theorem lay_237 : lay 237 = .inr (5, [some 238, some 239, some 240]) := by decide +kernel
set_option maxRecDepth 100000 in
theorem lay_238 : lay 238 = .inl (0, 4) := by decide +kernel
set_option maxRecDepth 100000 in
theorem lay_239 : lay 239 = .inl (0, 4) := by decide +kernel
set_option maxRecDepth 100000 in
theorem lay_240 : lay 240 = .inl (245, 4) := by decide +kernel
set_option maxRecDepth 100000 in
theorem lay_245 : lay 245 = .inr (10, [none, some 246, none, some 247, none, some 248, some 249, none, some 250, some 251, some 252, some 253, some 254, some 255, some 256, none, some 257, some 258, some 259, some 260, none, some 261, some 262, some 263, none, some 264, some 265, none, some 266, some 267, none, some 268, some 269, none, some 270, some 271, none, some 272, some 273, some 274, none, none, none, some 275, some 276, none, none, none, none, none, none, none, none, some 277, some 278, some 279, some 280, some 281, none, some 282, some 283, some 284, some 285]) := by decide +kernel
set_option maxRecDepth 100000 in
theorem lay_246 : lay 246 = .inl (0, 24) := by decide +kernel
set_option maxRecDepth 100000 in
theorem lay_247 : lay 247 = .inl (0, 24) := by decide +kernel
set_option maxRecDepth 100000 in
theorem lay_248 : lay 248 = .inl (0, 8) := by decide +kernel
set_option maxRecDepth 100000 in
theorem lay_249 : lay 249 = .inl (0, 192) := by decide +kernel
set_option maxRecDepth 100000 in
theorem lay_250 : lay 250 = .inl (0, 104) := by decide +kernel
set_option maxRecDepth 100000 in
theorem lay_251 : lay 251 = .inl (0, 104) := by decide +kernel
set_option maxRecDepth 100000 in
theorem lay_252 : lay 252 = .inl (0, 104) := by decide +kernel
set_option maxRecDepth 100000 in
theorem lay_253 : lay 253 = .inl (1, 104) := by decide +kernel
set_option maxRecDepth 100000 in
theorem lay_254 : lay 254 = .inl (0, 24) := by decide +kernel
set_option maxRecDepth 100000 in
theorem lay_255 : lay 255 = .inl (0, 576) := by decide +kernel
set_option maxRecDepth 100000 in
theorem lay_256 : lay 256 = .inl (0, 576) := by decide +kernel
set_option maxRecDepth 100000 in
theorem lay_257 : lay 257 = .inl (0, 8) := by decide +kernel
set_option maxRecDepth 100000 in
theorem lay_258 : lay 258 = .inl (0, 64) := by decide +kernel
set_option maxRecDepth 100000 in
theorem lay_259 : lay 259 = .inl (0, 8) := by decide +kernel
set_option maxRecDepth 100000 in
theorem lay_260 : lay 260 = .inl (0, 8) := by decide +kernel
set_option maxRecDepth 100000 in
theorem lay_261 : lay 261 = .inl (0, 8) := by decide +kernel
set_option maxRecDepth 100000 in
theorem lay_262 : lay 262 = .inl (0, 8) := by decide +kernel
set_option maxRecDepth 100000 in
theorem lay_263 : lay 263 = .inl (0, 4) := by decide +kernel
set_option maxRecDepth 100000 in
theorem lay_264 : lay 264 = .inl (0, 4) := by decide +kernel
set_option maxRecDepth 100000 in
theorem lay_265 : lay 265 = .inl (1, 32) := by decide +kernel
set_option maxRecDepth 100000 in
theorem lay_266 : lay 266 = .inl (0, 4) := by decide +kernel
set_option maxRecDepth 100000 in
theorem lay_267 : lay 267 = .inl (0, 4) := by decide +kernel
set_option maxRecDepth 100000 in
theorem lay_268 : lay 268 = .inl (0, 12) := by decide +kernel
set_option maxRecDepth 100000 in
theorem lay_269 : lay 269 = .inl (0, 12) := by decide +kernel
set_option maxRecDepth 100000 in
theorem lay_270 : lay 270 = .inl (0, 6) := by decide +kernel
set_option maxRecDepth 100000 in
theorem lay_271 : lay 271 = .inl (0, 24) := by decide +kernel
set_option maxRecDepth 100000 in
theorem lay_272 : lay 272 = .inl (0, 104) := by decide +kernel
set_option maxRecDepth 100000 in
theorem lay_273 : lay 273 = .inl (0, 104) := by decide +kernel
set_option maxRecDepth 100000 in
theorem lay_274 : lay 274 = .inl (1, 28672) := by decide +kernel
set_option maxRecDepth 100000 in
theorem lay_275 : lay 275 = .inl (0, 6) := by decide +kernel
set_option maxRecDepth 100000 in
theorem lay_276 : lay 276 = .inl (0, 160) := by decide +kernel
set_option maxRecDepth 100000 in
theorem lay_277 : lay 277 = .inl (0, 20) := by decide +kernel
set_option maxRecDepth 100000 in
theorem lay_278 : lay 278 = .inl (0, 20) := by decide +kernel
set_option maxRecDepth 100000 in
theorem lay_279 : lay 279 = .inl (0, 20) := by decide +kernel
set_option maxRecDepth 100000 in
theorem lay_280 : lay 280 = .inl (0, 20) := by decide +kernel
set_option maxRecDepth 100000 in
theorem lay_281 : lay 281 = .inl (0, 20) := by decide +kernel
set_option maxRecDepth 100000 in
theorem lay_282 : lay 282 = .inl (0, 20) := by decide +kernel
set_option maxRecDepth 100000 in
theorem lay_283 : lay 283 = .inl (0, 4) := by decide +kernel
set_option maxRecDepth 100000 in
theorem lay_284 : lay 284 = .inl (0, 4) := by decide +kernel
set_option maxRecDepth 100000 in
theorem lay_285 : lay 285 = .inl (0, 240) := by decide +kernel
abbrev G_cl : List vw_C := [(RX0, TX0, 6), (RX1, TX1, 12), (RX2, TX2, 5), (RX3, TX3, 11), (RX4, TX4, 4), (RX5, TX5, 3), (RX6, TX6, 5), (RX7, TX7, 11), (RX8, TX8, 15), (RX9, TX9, 9), (RX10, TX10, 63)]
set_option maxRecDepth 100000 in
theorem inTB0 : ∀ w ∈ wsX00, w ∈ TB := by decide +kernel
set_option maxRecDepth 100000 in
theorem inTB1 : ∀ w ∈ wsX10, w ∈ TB := by decide +kernel
set_option maxRecDepth 100000 in
theorem inTB2 : ∀ w ∈ wsX20, w ∈ TB := by decide +kernel
set_option maxRecDepth 100000 in
theorem inTB3 : ∀ w ∈ wsX30, w ∈ TB := by decide +kernel
set_option maxRecDepth 100000 in
theorem inTB4 : ∀ w ∈ wsX40, w ∈ TB := by decide +kernel
set_option maxRecDepth 100000 in
theorem inTB5 : ∀ w ∈ wsX50, w ∈ TB := by decide +kernel
set_option maxRecDepth 100000 in
theorem inTB6 : ∀ w ∈ wsX60, w ∈ TB := by decide +kernel
set_option maxRecDepth 100000 in
theorem inTB7 : ∀ w ∈ wsX70, w ∈ TB := by decide +kernel
set_option maxRecDepth 100000 in
theorem inTB8 : ∀ w ∈ wsX80, w ∈ TB := by decide +kernel
set_option maxRecDepth 100000 in
theorem inTB9 : ∀ w ∈ wsX90, w ∈ TB := by decide +kernel
set_option maxRecDepth 100000 in
theorem inTB10 : ∀ w ∈ wsX100, w ∈ TB := by decide +kernel
set_option maxRecDepth 100000 in
theorem mmax_1 : Cond.static Lib.Math.max.name ∈ TB := lw_in (i := 464) (by decide +kernel) rfl
set_option maxRecDepth 100000 in
theorem mmax_2 : Cond.initialized "java/lang/Math" ∈ TB := lw_in (i := 108) (by decide +kernel) rfl
set_option maxRecDepth 100000 in
theorem mmax_3 : Cond.code Lib.Math.max.name Lib.Math.max.code 2 (some .int) ∈ TB := lw_in (i := 465) (by decide +kernel) rfl
set_option maxRecDepth 100000 in
theorem mmin_1 : Cond.static Lib.Math.min.name ∈ TB := lw_in (i := 461) (by decide +kernel) rfl
set_option maxRecDepth 100000 in
theorem mmin_2 : Cond.initialized "java/lang/Math" ∈ TB := lw_in (i := 108) (by decide +kernel) rfl
set_option maxRecDepth 100000 in
theorem mmin_3 : Cond.code Lib.Math.min.name Lib.Math.min.code 2 (some .int) ∈ TB := lw_in (i := 462) (by decide +kernel) rfl

