/-! the blocks -/
set_option maxRecDepth 100000 in
set_option maxHeartbeats 4000000 in
theorem Bk2 (G0 : GC) (hh : Nat → Nat) (uu : Nat → (Nat → Nat) × (Nat → Nat → Nat)) (ext adV : Nat → Nat) : Wn2 G0 (hh 2) (uu 2) = seg (gA G0 hh uu ext adV) 1 4 := by
  refine seg_head (n := 3) ?_ (seg_one (n := 2) 4 rfl (seg_one (n := 1) 3 rfl (seg_one (n := 0) 2 rfl (seg_nil 2) (ar0 lay_2 acd_2 (st0_f (by decide)).symm)) (ar0 lay_3 acd_3 (st0_f (by decide)).symm)) (ar0 lay_4 acd_4 (st0_f (by decide)).symm))
  unfold ent
  rw [lay_1, ga_o acd_1]
  rfl
set_option maxRecDepth 100000 in
set_option maxHeartbeats 4000000 in
theorem Bk7 (G0 : GC) (hh : Nat → Nat) (uu : Nat → (Nat → Nat) × (Nat → Nat → Nat)) (ext adV : Nat → Nat) : Wn7 G0 (hh 7) (hh 2) (uu 7) = seg (gA G0 hh uu ext adV) 5 17 := by
  refine seg_head (n := 16) ?_ (seg_one (n := 15) 21 rfl (seg_one (n := 14) 20 rfl (seg_one (n := 13) 19 rfl (seg_one (n := 12) 18 rfl (seg_one (n := 11) 17 rfl (seg_one (n := 10) 16 rfl (seg_rows (n := 1) (N := 8) 7 rfl (seg_one (n := 0) 6 rfl (seg_nil 6) (ar0 lay_6 acd_6 (st0_f (by decide)).symm)) (ar4 (t0 := 8) lay_7 acd_7 acr_8) (arR layr_8 acr_8 (by omega))) (ar0 lay_16 acd_16 (st0_f (by decide)).symm)) (ar0 lay_17 acd_17 (st0_f (by decide)).symm)) (ar0 lay_18 acd_18 (st0_f (by decide)).symm)) (ar0 lay_19 acd_19 (st0_f (by decide)).symm)) (ar1 lay_20 acd_20 (st0_f (by decide)).symm)) (ar0 lay_21 acd_21 (st0_f (by decide)).symm))
  unfold ent
  rw [lay_5, ga_o acd_5]
  rfl
set_option maxRecDepth 100000 in
set_option maxHeartbeats 4000000 in
theorem Bk3 (G0 : GC) (hh : Nat → Nat) (uu : Nat → (Nat → Nat) × (Nat → Nat → Nat)) (ext adV : Nat → Nat) : Wn3 G0 (hh 3) (hh 2) (hh 7) (uu 3) = seg (gA G0 hh uu ext adV) 22 80 := by
  refine seg_head (n := 79) ?_ (seg_one (n := 78) 101 rfl (seg_one (n := 77) 100 rfl (seg_one (n := 76) 99 rfl (seg_one (n := 75) 98 rfl (seg_rows (n := 50) (N := 24) 73 rfl (seg_rows (n := 25) (N := 24) 48 rfl (seg_rows (n := 0) (N := 24) 23 rfl (seg_nil 23) (ar4 (t0 := 24) lay_23 acd_23 acr_24) (arR layr_24 acr_24 (by omega))) (ar4 (t0 := 49) lay_48 acd_48 acr_49) (arR layr_49 acr_49 (by omega))) (ar4 (t0 := 74) lay_73 acd_73 acr_74) (arR layr_74 acr_74 (by omega))) (ar0 lay_98 acd_98 (st0_f (by decide)).symm)) (ar0 lay_99 acd_99 (st0_f (by decide)).symm)) (ar0 lay_100 acd_100 (st0_f (by decide)).symm)) (ar0 lay_101 acd_101 (st0_f (by decide)).symm))
  unfold ent
  rw [lay_22, ga_o acd_22]
  rfl
set_option maxRecDepth 100000 in
set_option maxHeartbeats 4000000 in
theorem Bk0 (G0 : GC) (hh : Nat → Nat) (uu : Nat → (Nat → Nat) × (Nat → Nat → Nat)) (ext adV : Nat → Nat) : Wn0 G0 (hh 0) (uu 0) = seg (gA G0 hh uu ext adV) 102 13 := by
  refine seg_head (n := 12) ?_ (seg_one (n := 11) 114 rfl (seg_one (n := 10) 113 rfl (seg_one (n := 9) 112 rfl (seg_rows (n := 0) (N := 8) 103 rfl (seg_nil 103) (ar4 (t0 := 104) lay_103 acd_103 acr_104) (arR layr_104 acr_104 (by omega))) (ar0 lay_112 acd_112 (st0_f (by decide)).symm)) (ar0 lay_113 acd_113 (st0_f (by decide)).symm)) (ar0 lay_114 acd_114 (st0_f (by decide)).symm))
  unfold ent
  rw [lay_102, ga_o acd_102]
  rfl
set_option maxRecDepth 100000 in
set_option maxHeartbeats 4000000 in
theorem Bk4 (G0 : GC) (hh : Nat → Nat) (uu : Nat → (Nat → Nat) × (Nat → Nat → Nat)) (ext adV : Nat → Nat) : Wn4 G0 (hh 4) (hh 7) (uu 4) = seg (gA G0 hh uu ext adV) 115 7 := by
  refine seg_head (n := 6) ?_ (seg_one (n := 5) 121 rfl (seg_rows (n := 0) (N := 4) 116 rfl (seg_nil 116) (ar4 (t0 := 117) lay_116 acd_116 acr_117) (arR layr_117 acr_117 (by omega))) (ar0 lay_121 acd_121 (st0_f (by decide)).symm))
  unfold ent
  rw [lay_115, ga_o acd_115]
  rfl
set_option maxRecDepth 100000 in
set_option maxHeartbeats 4000000 in
theorem Bk8 (G0 : GC) (hh : Nat → Nat) (uu : Nat → (Nat → Nat) × (Nat → Nat → Nat)) (ext adV : Nat → Nat) : Wn8 G0 (hh 8) (hh 7) (uu 8) = seg (gA G0 hh uu ext adV) 122 106 := by
  refine seg_head (n := 105) ?_ (seg_one (n := 104) 227 rfl (seg_one (n := 103) 226 rfl (seg_one (n := 102) 225 rfl (seg_one (n := 101) 224 rfl (seg_rows (n := 4) (N := 96) 127 rfl (seg_one (n := 3) 126 rfl (seg_one (n := 2) 125 rfl (seg_one (n := 1) 124 rfl (seg_one (n := 0) 123 rfl (seg_nil 123) (ar3 lay_123 acd_123)) (ar0 lay_124 acd_124 (st0_f (by decide)).symm)) (ar0 lay_125 acd_125 (st0_f (by decide)).symm)) (ar0 lay_126 acd_126 (st0_f (by decide)).symm)) (ar4 (t0 := 128) lay_127 acd_127 acr_128) (arR layr_128 acr_128 (by omega))) (ar0 lay_224 acd_224 (st0_f (by decide)).symm)) (ar0 lay_225 acd_225 (st0_f (by decide)).symm)) (ar0 lay_226 acd_226 (st0_f (by decide)).symm)) (ar0 lay_227 acd_227 (st0_f (by decide)).symm))
  unfold ent
  rw [lay_122, ga_o acd_122]
  rfl
set_option maxRecDepth 100000 in
set_option maxHeartbeats 4000000 in
theorem Bk6 (G0 : GC) (hh : Nat → Nat) (uu : Nat → (Nat → Nat) × (Nat → Nat → Nat)) (ext adV : Nat → Nat) : Wn6 G0 (hh 6) (uu 6) = seg (gA G0 hh uu ext adV) 228 2 := by
  refine seg_head (n := 1) ?_ (seg_one (n := 0) 229 rfl (seg_nil 229) (ar2 lay_229 acd_229 (st0_f (by decide)).symm))
  unfold ent
  rw [lay_228, ga_o acd_228]
  rfl
set_option maxRecDepth 100000 in
set_option maxHeartbeats 4000000 in
theorem Bk1 (G0 : GC) (hh : Nat → Nat) (uu : Nat → (Nat → Nat) × (Nat → Nat → Nat)) (ext adV : Nat → Nat) : Wn1 G0 (hh 1) (hh 6) (uu 1) = seg (gA G0 hh uu ext adV) 230 7 := by
  refine seg_head (n := 6) ?_ (seg_one (n := 5) 236 rfl (seg_one (n := 4) 235 rfl (seg_one (n := 3) 234 rfl (seg_one (n := 2) 233 rfl (seg_one (n := 1) 232 rfl (seg_one (n := 0) 231 rfl (seg_nil 231) (ar0 lay_231 acd_231 (st0_f (by decide)).symm)) (ar0 lay_232 acd_232 (st0_f (by decide)).symm)) (ar0 lay_233 acd_233 (st0_f (by decide)).symm)) (ar0 lay_234 acd_234 (st0_f (by decide)).symm)) (ar0 lay_235 acd_235 (st0_f (by decide)).symm)) (ar0 lay_236 acd_236 (st0_f (by decide)).symm))
  unfold ent
  rw [lay_230, ga_o acd_230]
  rfl
set_option maxRecDepth 100000 in
set_option maxHeartbeats 4000000 in
theorem Bk5 (G0 : GC) (hh : Nat → Nat) (uu : Nat → (Nat → Nat) × (Nat → Nat → Nat)) (ext adV : Nat → Nat) : Wn5 G0 (hh 5) (uu 5) = seg (gA G0 hh uu ext adV) 237 8 := by
  refine seg_head (n := 7) ?_ (seg_rows (n := 2) (N := 4) 240 rfl (seg_one (n := 1) 239 rfl (seg_one (n := 0) 238 rfl (seg_nil 238) (ar0 lay_238 acd_238 (st0_f (by decide)).symm)) (ar0 lay_239 acd_239 (st0_m (by decide)))) (ar4 (t0 := 241) lay_240 acd_240 acr_241) (arR layr_241 acr_241 (by omega)))
  unfold ent
  rw [lay_237, ga_o acd_237]
  rfl
set_option maxRecDepth 100000 in
set_option maxHeartbeats 4000000 in
theorem Bk10 (G0 : GC) (hh : Nat → Nat) (uu : Nat → (Nat → Nat) × (Nat → Nat → Nat)) (ext adV : Nat → Nat) : Wn10 G0 (hh 10) (uu 10) = seg (gA G0 hh uu ext adV) 245 41 := by
  refine seg_head (n := 40) ?_ (seg_one (n := 39) 285 rfl (seg_one (n := 38) 284 rfl (seg_one (n := 37) 283 rfl (seg_one (n := 36) 282 rfl (seg_one (n := 35) 281 rfl (seg_one (n := 34) 280 rfl (seg_one (n := 33) 279 rfl (seg_one (n := 32) 278 rfl (seg_one (n := 31) 277 rfl (seg_one (n := 30) 276 rfl (seg_one (n := 29) 275 rfl (seg_one (n := 28) 274 rfl (seg_one (n := 27) 273 rfl (seg_one (n := 26) 272 rfl (seg_one (n := 25) 271 rfl (seg_one (n := 24) 270 rfl (seg_one (n := 23) 269 rfl (seg_one (n := 22) 268 rfl (seg_one (n := 21) 267 rfl (seg_one (n := 20) 266 rfl (seg_one (n := 19) 265 rfl (seg_one (n := 18) 264 rfl (seg_one (n := 17) 263 rfl (seg_one (n := 16) 262 rfl (seg_one (n := 15) 261 rfl (seg_one (n := 14) 260 rfl (seg_one (n := 13) 259 rfl (seg_one (n := 12) 258 rfl (seg_one (n := 11) 257 rfl (seg_one (n := 10) 256 rfl (seg_one (n := 9) 255 rfl (seg_one (n := 8) 254 rfl (seg_one (n := 7) 253 rfl (seg_one (n := 6) 252 rfl (seg_one (n := 5) 251 rfl (seg_one (n := 4) 250 rfl (seg_one (n := 3) 249 rfl (seg_one (n := 2) 248 rfl (seg_one (n := 1) 247 rfl (seg_one (n := 0) 246 rfl (seg_nil 246) (ar0 lay_246 acd_246 (st0_f (by decide)).symm)) (ar0 lay_247 acd_247 (st0_f (by decide)).symm)) (ar0 lay_248 acd_248 (st0_f (by decide)).symm)) (ar0 lay_249 acd_249 (st0_f (by decide)).symm)) (ar0 lay_250 acd_250 (st0_f (by decide)).symm)) (ar0 lay_251 acd_251 (st0_f (by decide)).symm)) (ar0 lay_252 acd_252 (st0_f (by decide)).symm)) (ar1 lay_253 acd_253 (st0_f (by decide)).symm)) (ar0 lay_254 acd_254 (st0_f (by decide)).symm)) (ar0 lay_255 acd_255 (st0_f (by decide)).symm)) (ar0 lay_256 acd_256 (st0_f (by decide)).symm)) (ar0 lay_257 acd_257 (st0_f (by decide)).symm)) (ar0 lay_258 acd_258 (st0_f (by decide)).symm)) (ar0 lay_259 acd_259 (st0_f (by decide)).symm)) (ar0 lay_260 acd_260 (st0_f (by decide)).symm)) (ar0 lay_261 acd_261 (st0_f (by decide)).symm)) (ar0 lay_262 acd_262 (st0_f (by decide)).symm)) (ar0 lay_263 acd_263 (st0_f (by decide)).symm)) (ar0 lay_264 acd_264 (st0_f (by decide)).symm)) (ar1 lay_265 acd_265 (st0_f (by decide)).symm)) (ar0 lay_266 acd_266 (st0_f (by decide)).symm)) (ar0 lay_267 acd_267 (st0_f (by decide)).symm)) (ar0 lay_268 acd_268 (st0_f (by decide)).symm)) (ar0 lay_269 acd_269 (st0_f (by decide)).symm)) (ar0 lay_270 acd_270 (st0_f (by decide)).symm)) (ar0 lay_271 acd_271 (st0_f (by decide)).symm)) (ar0 lay_272 acd_272 (st0_f (by decide)).symm)) (ar0 lay_273 acd_273 (st0_f (by decide)).symm)) (ar1 lay_274 acd_274 (st0_f (by decide)).symm)) (ar0 lay_275 acd_275 (st0_f (by decide)).symm)) (ar0 lay_276 acd_276 (st0_f (by decide)).symm)) (ar0 lay_277 acd_277 (st0_f (by decide)).symm)) (ar0 lay_278 acd_278 (st0_f (by decide)).symm)) (ar0 lay_279 acd_279 (st0_f (by decide)).symm)) (ar0 lay_280 acd_280 (st0_f (by decide)).symm)) (ar0 lay_281 acd_281 (st0_f (by decide)).symm)) (ar0 lay_282 acd_282 (st0_f (by decide)).symm)) (ar0 lay_283 acd_283 (st0_m (by decide)))) (ar0 lay_284 acd_284 (st0_f (by decide)).symm)) (ar0 lay_285 acd_285 (st0_f (by decide)).symm))
  unfold ent
  rw [lay_245, ga_o acd_245]
  rfl
theorem acd_0 : acd 0 = (0, 9, 0, 0) := by decide +kernel
set_option maxRecDepth 100000 in
set_option maxHeartbeats 4000000 in
theorem Bk9 (G0 : GC) (hh : Nat → Nat) (uu : Nat → (Nat → Nat) × (Nat → Nat → Nat)) (ext adV : Nat → Nat) : Wn9 G0 (hh 9) (hh, uu) = seg (gA G0 hh uu ext adV) 0 245 := by
  refine seg_head (n := 244) ?_ (seg_cat (n := 236) (m := 8) 237 rfl (seg_cat (n := 229) (m := 7) 230 rfl (seg_cat (n := 227) (m := 2) 228 rfl (seg_cat (n := 121) (m := 106) 122 rfl (seg_cat (n := 114) (m := 7) 115 rfl (seg_cat (n := 101) (m := 13) 102 rfl (seg_cat (n := 21) (m := 80) 22 rfl (seg_cat (n := 4) (m := 17) 5 rfl (seg_cat (n := 0) (m := 4) 1 rfl (seg_nil 1) (Bk2 G0 hh uu ext adV)) (Bk7 G0 hh uu ext adV)) (Bk3 G0 hh uu ext adV)) (Bk0 G0 hh uu ext adV)) (Bk4 G0 hh uu ext adV)) (Bk8 G0 hh uu ext adV)) (Bk6 G0 hh uu ext adV)) (Bk1 G0 hh uu ext adV)) (Bk5 G0 hh uu ext adV))
  unfold ent
  rw [lay_0, ga_o acd_0]
  rfl
theorem Bk_all (G0 : GC) (hh : Nat → Nat) (uu : Nat → (Nat → Nat) × (Nat → Nat → Nat)) (ext adV : Nat → Nat) : Wn9 G0 (hh 9) (hh, uu) ++ Wn10 G0 (hh 10) (uu 10) = wsOf (gA G0 hh uu ext adV) st0 := by
  rw [seg_all]
  exact seg_cat (n := 245) (m := 41) 245 rfl (Bk9 G0 hh uu ext adV) (Bk10 G0 hh uu ext adV)
