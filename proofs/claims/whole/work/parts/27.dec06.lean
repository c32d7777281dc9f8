/-! the code tables are the bytes, on (printed by wip/tools/mk26.py) -/
noncomputable section
theorem xob_252 (pc : Nat) (h : 33 ≤ pc) : xc_252 pc = none := by
  unfold xc_252
  rw [xblt_f (show 13 ≤ pc by omega), cond_false, xblt_f (show 22 ≤ pc by omega), cond_false, xblt_f (show 28 ≤ pc by omega), cond_false, xblt_f (show 31 ≤ pc by omega), cond_false, xblt_f (show 32 ≤ pc by omega), cond_false, xbeq_f (show pc ≠ 32 by omega), cond_false]
set_option maxRecDepth 100000 in
theorem xde_252 : xDe 252 := xDe_of (B := 33) xc_252 rfl xob_252 (by decide +kernel)
theorem xob_253 (pc : Nat) (h : 56 ≤ pc) : xc_253 pc = none := by
  unfold xc_253
  rw [xblt_f (show 28 ≤ pc by omega), cond_false, xblt_f (show 43 ≤ pc by omega), cond_false, xblt_f (show 47 ≤ pc by omega), cond_false, xblt_f (show 51 ≤ pc by omega), cond_false, xblt_f (show 52 ≤ pc by omega), cond_false, xblt_f (show 55 ≤ pc by omega), cond_false, xbeq_f (show pc ≠ 55 by omega), cond_false]
set_option maxRecDepth 100000 in
theorem xde_253 : xDe 253 := xDe_of (B := 56) xc_253 rfl xob_253 (by decide +kernel)
theorem xob_254 (pc : Nat) (h : 51 ≤ pc) : xc_254 pc = none := by
  unfold xc_254
  rw [xblt_f (show 28 ≤ pc by omega), cond_false, xblt_f (show 39 ≤ pc by omega), cond_false, xblt_f (show 45 ≤ pc by omega), cond_false, xblt_f (show 47 ≤ pc by omega), cond_false, xblt_f (show 50 ≤ pc by omega), cond_false, xbeq_f (show pc ≠ 50 by omega), cond_false]
set_option maxRecDepth 100000 in
theorem xde_254 : xDe 254 := xDe_of (B := 51) xc_254 rfl xob_254 (by decide +kernel)
theorem xob_255 (pc : Nat) (h : 59 ≤ pc) : xc_255 pc = none := by
  unfold xc_255
  rw [xblt_f (show 30 ≤ pc by omega), cond_false, xblt_f (show 43 ≤ pc by omega), cond_false, xblt_f (show 50 ≤ pc by omega), cond_false, xblt_f (show 54 ≤ pc by omega), cond_false, xblt_f (show 57 ≤ pc by omega), cond_false, xblt_f (show 58 ≤ pc by omega), cond_false, xbeq_f (show pc ≠ 58 by omega), cond_false]
set_option maxRecDepth 100000 in
theorem xde_255 : xDe 255 := xDe_of (B := 59) xc_255 rfl xob_255 (by decide +kernel)
theorem xob_256 (pc : Nat) (h : 126 ≤ pc) : xc_256 pc = none := by
  unfold xc_256
  rw [xblt_f (show 62 ≤ pc by omega), cond_false, xblt_f (show 94 ≤ pc by omega), cond_false, xblt_f (show 107 ≤ pc by omega), cond_false, xblt_f (show 116 ≤ pc by omega), cond_false, xblt_f (show 121 ≤ pc by omega), cond_false, xblt_f (show 124 ≤ pc by omega), cond_false, xblt_f (show 125 ≤ pc by omega), cond_false, xbeq_f (show pc ≠ 125 by omega), cond_false]
set_option maxRecDepth 100000 in
theorem xde_256 : xDe 256 := xDe_of (B := 126) xc_256 rfl xob_256 (by decide +kernel)
theorem xob_257 (pc : Nat) (h : 68 ≤ pc) : xc_257 pc = none := by
  unfold xc_257
  rw [xblt_f (show 35 ≤ pc by omega), cond_false, xblt_f (show 51 ≤ pc by omega), cond_false, xblt_f (show 58 ≤ pc by omega), cond_false, xblt_f (show 63 ≤ pc by omega), cond_false, xblt_f (show 66 ≤ pc by omega), cond_false, xblt_f (show 67 ≤ pc by omega), cond_false, xbeq_f (show pc ≠ 67 by omega), cond_false]
set_option maxRecDepth 100000 in
theorem xde_257 : xDe 257 := xDe_of (B := 68) xc_257 rfl xob_257 (by decide +kernel)
theorem xob_258 (pc : Nat) (h : 31 ≤ pc) : xc_258 pc = none := by
  unfold xc_258
  rw [xblt_f (show 15 ≤ pc by omega), cond_false, xblt_f (show 23 ≤ pc by omega), cond_false, xblt_f (show 25 ≤ pc by omega), cond_false, xblt_f (show 27 ≤ pc by omega), cond_false, xblt_f (show 30 ≤ pc by omega), cond_false, xbeq_f (show pc ≠ 30 by omega), cond_false]
set_option maxRecDepth 100000 in
theorem xde_258 : xDe 258 := xDe_of (B := 31) xc_258 rfl xob_258 (by decide +kernel)
theorem xob_259 (pc : Nat) (h : 94 ≤ pc) : xc_259 pc = none := by
  unfold xc_259
  rw [xblt_f (show 49 ≤ pc by omega), cond_false, xblt_f (show 67 ≤ pc by omega), cond_false, xblt_f (show 80 ≤ pc by omega), cond_false, xblt_f (show 85 ≤ pc by omega), cond_false, xblt_f (show 91 ≤ pc by omega), cond_false, xblt_f (show 93 ≤ pc by omega), cond_false, xbeq_f (show pc ≠ 93 by omega), cond_false]
set_option maxRecDepth 100000 in
theorem xde_259 : xDe 259 := xDe_of (B := 94) xc_259 rfl xob_259 (by decide +kernel)
theorem xob_260 (pc : Nat) (h : 124 ≤ pc) : xc_260 pc = none := by
  unfold xc_260
  rw [xblt_f (show 61 ≤ pc by omega), cond_false, xblt_f (show 92 ≤ pc by omega), cond_false, xblt_f (show 109 ≤ pc by omega), cond_false, xblt_f (show 115 ≤ pc by omega), cond_false, xblt_f (show 119 ≤ pc by omega), cond_false, xblt_f (show 122 ≤ pc by omega), cond_false, xblt_f (show 123 ≤ pc by omega), cond_false, xbeq_f (show pc ≠ 123 by omega), cond_false]
set_option maxRecDepth 100000 in
theorem xde_260 : xDe 260 := xDe_of (B := 124) xc_260 rfl xob_260 (by decide +kernel)
theorem xob_261 (pc : Nat) (h : 90 ≤ pc) : xc_261 pc = none := by
  unfold xc_261
  rw [xblt_f (show 41 ≤ pc by omega), cond_false, xblt_f (show 66 ≤ pc by omega), cond_false, xblt_f (show 78 ≤ pc by omega), cond_false, xblt_f (show 85 ≤ pc by omega), cond_false, xblt_f (show 88 ≤ pc by omega), cond_false, xblt_f (show 89 ≤ pc by omega), cond_false, xbeq_f (show pc ≠ 89 by omega), cond_false]
set_option maxRecDepth 100000 in
theorem xde_261 : xDe 261 := xDe_of (B := 90) xc_261 rfl xob_261 (by decide +kernel)
theorem xob_262 (pc : Nat) (h : 103 ≤ pc) : xc_262 pc = none := by
  unfold xc_262
  rw [xblt_f (show 52 ≤ pc by omega), cond_false, xblt_f (show 78 ≤ pc by omega), cond_false, xblt_f (show 91 ≤ pc by omega), cond_false, xblt_f (show 98 ≤ pc by omega), cond_false, xblt_f (show 99 ≤ pc by omega), cond_false, xblt_f (show 102 ≤ pc by omega), cond_false, xbeq_f (show pc ≠ 102 by omega), cond_false]
set_option maxRecDepth 100000 in
theorem xde_262 : xDe 262 := xDe_of (B := 103) xc_262 rfl xob_262 (by decide +kernel)
theorem xob_263 (pc : Nat) (h : 106 ≤ pc) : xc_263 pc = none := by
  unfold xc_263
  rw [xblt_f (show 50 ≤ pc by omega), cond_false, xblt_f (show 78 ≤ pc by omega), cond_false, xblt_f (show 93 ≤ pc by omega), cond_false, xblt_f (show 98 ≤ pc by omega), cond_false, xblt_f (show 102 ≤ pc by omega), cond_false, xblt_f (show 105 ≤ pc by omega), cond_false, xbeq_f (show pc ≠ 105 by omega), cond_false]
set_option maxRecDepth 100000 in
theorem xde_263 : xDe 263 := xDe_of (B := 106) xc_263 rfl xob_263 (by decide +kernel)
theorem xob_264 (pc : Nat) (h : 234 ≤ pc) : xc_264 pc = none := by
  unfold xc_264
  rw [xblt_f (show 121 ≤ pc by omega), cond_false, xblt_f (show 178 ≤ pc by omega), cond_false, xblt_f (show 206 ≤ pc by omega), cond_false, xblt_f (show 220 ≤ pc by omega), cond_false, xblt_f (show 228 ≤ pc by omega), cond_false, xblt_f (show 230 ≤ pc by omega), cond_false, xblt_f (show 233 ≤ pc by omega), cond_false, xbeq_f (show pc ≠ 233 by omega), cond_false]
set_option maxRecDepth 100000 in
theorem xde_264 : xDe 264 := xDe_of (B := 234) xc_264 rfl xob_264 (by decide +kernel)
theorem xob_265 (pc : Nat) (h : 119 ≤ pc) : xc_265 pc = none := by
  unfold xc_265
  rw [xblt_f (show 62 ≤ pc by omega), cond_false, xblt_f (show 91 ≤ pc by omega), cond_false, xblt_f (show 107 ≤ pc by omega), cond_false, xblt_f (show 113 ≤ pc by omega), cond_false, xblt_f (show 115 ≤ pc by omega), cond_false, xblt_f (show 118 ≤ pc by omega), cond_false, xbeq_f (show pc ≠ 118 by omega), cond_false]
set_option maxRecDepth 100000 in
theorem xde_265 : xDe 265 := xDe_of (B := 119) xc_265 rfl xob_265 (by decide +kernel)
theorem xob_266 (pc : Nat) (h : 102 ≤ pc) : xc_266 pc = none := by
  unfold xc_266
  rw [xblt_f (show 53 ≤ pc by omega), cond_false, xblt_f (show 76 ≤ pc by omega), cond_false, xblt_f (show 91 ≤ pc by omega), cond_false, xblt_f (show 96 ≤ pc by omega), cond_false, xblt_f (show 98 ≤ pc by omega), cond_false, xblt_f (show 101 ≤ pc by omega), cond_false, xbeq_f (show pc ≠ 101 by omega), cond_false]
set_option maxRecDepth 100000 in
theorem xde_266 : xDe 266 := xDe_of (B := 102) xc_266 rfl xob_266 (by decide +kernel)
theorem xob_267 (pc : Nat) (h : 193 ≤ pc) : xc_267 pc = none := by
  unfold xc_267
  rw [xblt_f (show 98 ≤ pc by omega), cond_false, xblt_f (show 147 ≤ pc by omega), cond_false, xblt_f (show 173 ≤ pc by omega), cond_false, xblt_f (show 182 ≤ pc by omega), cond_false, xblt_f (show 185 ≤ pc by omega), cond_false, xblt_f (show 189 ≤ pc by omega), cond_false, xblt_f (show 192 ≤ pc by omega), cond_false, xbeq_f (show pc ≠ 192 by omega), cond_false]
set_option maxRecDepth 100000 in
theorem xde_267 : xDe 267 := xDe_of (B := 193) xc_267 rfl xob_267 (by decide +kernel)
theorem xob_268 (pc : Nat) (h : 58 ≤ pc) : xc_268 pc = none := by
  unfold xc_268
  rw [xblt_f (show 27 ≤ pc by omega), cond_false, xblt_f (show 41 ≤ pc by omega), cond_false, xblt_f (show 51 ≤ pc by omega), cond_false, xblt_f (show 55 ≤ pc by omega), cond_false, xblt_f (show 56 ≤ pc by omega), cond_false, xblt_f (show 57 ≤ pc by omega), cond_false, xbeq_f (show pc ≠ 57 by omega), cond_false]
set_option maxRecDepth 100000 in
theorem xde_268 : xDe 268 := xDe_of (B := 58) xc_268 rfl xob_268 (by decide +kernel)
theorem xob_269 (pc : Nat) (h : 71 ≤ pc) : xc_269 pc = none := by
  unfold xc_269
  rw [xblt_f (show 36 ≤ pc by omega), cond_false, xblt_f (show 55 ≤ pc by omega), cond_false, xblt_f (show 62 ≤ pc by omega), cond_false, xblt_f (show 66 ≤ pc by omega), cond_false, xblt_f (show 69 ≤ pc by omega), cond_false, xblt_f (show 70 ≤ pc by omega), cond_false, xbeq_f (show pc ≠ 70 by omega), cond_false]
set_option maxRecDepth 100000 in
theorem xde_269 : xDe 269 := xDe_of (B := 71) xc_269 rfl xob_269 (by decide +kernel)
theorem xob_270 (pc : Nat) (h : 18 ≤ pc) : xc_270 pc = none := by
  unfold xc_270
  rw [xblt_f (show 9 ≤ pc by omega), cond_false, xblt_f (show 13 ≤ pc by omega), cond_false, xblt_f (show 14 ≤ pc by omega), cond_false, xblt_f (show 17 ≤ pc by omega), cond_false, xbeq_f (show pc ≠ 17 by omega), cond_false]
set_option maxRecDepth 100000 in
theorem xde_270 : xDe 270 := xDe_of (B := 18) xc_270 rfl xob_270 (by decide +kernel)
theorem xob_271 (pc : Nat) (h : 18 ≤ pc) : xc_271 pc = none := by
  unfold xc_271
  rw [xblt_f (show 9 ≤ pc by omega), cond_false, xblt_f (show 13 ≤ pc by omega), cond_false, xblt_f (show 14 ≤ pc by omega), cond_false, xblt_f (show 17 ≤ pc by omega), cond_false, xbeq_f (show pc ≠ 17 by omega), cond_false]
set_option maxRecDepth 100000 in
theorem xde_271 : xDe 271 := xDe_of (B := 18) xc_271 rfl xob_271 (by decide +kernel)
theorem xob_272 (pc : Nat) (h : 42 ≤ pc) : xc_272 pc = none := by
  unfold xc_272
  rw [xblt_f (show 22 ≤ pc by omega), cond_false, xblt_f (show 32 ≤ pc by omega), cond_false, xblt_f (show 37 ≤ pc by omega), cond_false, xblt_f (show 40 ≤ pc by omega), cond_false, xblt_f (show 41 ≤ pc by omega), cond_false, xbeq_f (show pc ≠ 41 by omega), cond_false]
set_option maxRecDepth 100000 in
theorem xde_272 : xDe 272 := xDe_of (B := 42) xc_272 rfl xob_272 (by decide +kernel)
theorem xob_273 (pc : Nat) (h : 21 ≤ pc) : xc_273 pc = none := by
  unfold xc_273
  rw [xblt_f (show 9 ≤ pc by omega), cond_false, xblt_f (show 14 ≤ pc by omega), cond_false, xblt_f (show 17 ≤ pc by omega), cond_false, xblt_f (show 20 ≤ pc by omega), cond_false, xbeq_f (show pc ≠ 20 by omega), cond_false]
set_option maxRecDepth 100000 in
theorem xde_273 : xDe 273 := xDe_of (B := 21) xc_273 rfl xob_273 (by decide +kernel)
theorem xob_274 (pc : Nat) (h : 68 ≤ pc) : xc_274 pc = none := by
  unfold xc_274
  rw [xblt_f (show 33 ≤ pc by omega), cond_false, xblt_f (show 50 ≤ pc by omega), cond_false, xblt_f (show 59 ≤ pc by omega), cond_false, xblt_f (show 63 ≤ pc by omega), cond_false, xblt_f (show 66 ≤ pc by omega), cond_false, xblt_f (show 67 ≤ pc by omega), cond_false, xbeq_f (show pc ≠ 67 by omega), cond_false]
set_option maxRecDepth 100000 in
theorem xde_274 : xDe 274 := xDe_of (B := 68) xc_274 rfl xob_274 (by decide +kernel)
theorem xob_275 (pc : Nat) (h : 235 ≤ pc) : xc_275 pc = none := by
  unfold xc_275
  rw [xblt_f (show 118 ≤ pc by omega), cond_false, xblt_f (show 174 ≤ pc by omega), cond_false, xblt_f (show 202 ≤ pc by omega), cond_false, xblt_f (show 219 ≤ pc by omega), cond_false, xblt_f (show 227 ≤ pc by omega), cond_false, xblt_f (show 231 ≤ pc by omega), cond_false, xblt_f (show 234 ≤ pc by omega), cond_false, xbeq_f (show pc ≠ 234 by omega), cond_false]
set_option maxRecDepth 100000 in
theorem xde_275 : xDe 275 := xDe_of (B := 235) xc_275 rfl xob_275 (by decide +kernel)
theorem xob_276 (pc : Nat) (h : 40 ≤ pc) : xc_276 pc = none := by
  unfold xc_276
  rw [xblt_f (show 20 ≤ pc by omega), cond_false, xblt_f (show 29 ≤ pc by omega), cond_false, xblt_f (show 35 ≤ pc by omega), cond_false, xblt_f (show 38 ≤ pc by omega), cond_false, xblt_f (show 39 ≤ pc by omega), cond_false, xbeq_f (show pc ≠ 39 by omega), cond_false]
set_option maxRecDepth 100000 in
theorem xde_276 : xDe 276 := xDe_of (B := 40) xc_276 rfl xob_276 (by decide +kernel)
theorem xob_277 (pc : Nat) (h : 9 ≤ pc) : xc_277 pc = none := by
  unfold xc_277
  rw [xblt_f (show 4 ≤ pc by omega), cond_false, xblt_f (show 5 ≤ pc by omega), cond_false, xblt_f (show 8 ≤ pc by omega), cond_false, xbeq_f (show pc ≠ 8 by omega), cond_false]
set_option maxRecDepth 100000 in
theorem xde_277 : xDe 277 := xDe_of (B := 9) xc_277 rfl xob_277 (by decide +kernel)
theorem xob_278 (pc : Nat) (h : 16 ≤ pc) : xc_278 pc = none := by
  unfold xc_278
  rw [xblt_f (show 6 ≤ pc by omega), cond_false, xblt_f (show 10 ≤ pc by omega), cond_false, xblt_f (show 12 ≤ pc by omega), cond_false, xblt_f (show 15 ≤ pc by omega), cond_false, xbeq_f (show pc ≠ 15 by omega), cond_false]
set_option maxRecDepth 100000 in
theorem xde_278 : xDe 278 := xDe_of (B := 16) xc_278 rfl xob_278 (by decide +kernel)
theorem xob_279 (pc : Nat) (h : 22 ≤ pc) : xc_279 pc = none := by
  unfold xc_279
  rw [xblt_f (show 12 ≤ pc by omega), cond_false, xblt_f (show 17 ≤ pc by omega), cond_false, xblt_f (show 19 ≤ pc by omega), cond_false, xblt_f (show 20 ≤ pc by omega), cond_false, xblt_f (show 21 ≤ pc by omega), cond_false, xbeq_f (show pc ≠ 21 by omega), cond_false]
set_option maxRecDepth 100000 in
theorem xde_279 : xDe 279 := xDe_of (B := 22) xc_279 rfl xob_279 (by decide +kernel)
theorem xob_280 (pc : Nat) (h : 30 ≤ pc) : xc_280 pc = none := by
  unfold xc_280
  rw [xblt_f (show 15 ≤ pc by omega), cond_false, xblt_f (show 20 ≤ pc by omega), cond_false, xblt_f (show 25 ≤ pc by omega), cond_false, xblt_f (show 28 ≤ pc by omega), cond_false, xblt_f (show 29 ≤ pc by omega), cond_false, xbeq_f (show pc ≠ 29 by omega), cond_false]
set_option maxRecDepth 100000 in
theorem xde_280 : xDe 280 := xDe_of (B := 30) xc_280 rfl xob_280 (by decide +kernel)
theorem xob_281 (pc : Nat) (h : 30 ≤ pc) : xc_281 pc = none := by
  unfold xc_281
  rw [xblt_f (show 12 ≤ pc by omega), cond_false, xblt_f (show 21 ≤ pc by omega), cond_false, xblt_f (show 25 ≤ pc by omega), cond_false, xblt_f (show 28 ≤ pc by omega), cond_false, xblt_f (show 29 ≤ pc by omega), cond_false, xbeq_f (show pc ≠ 29 by omega), cond_false]
set_option maxRecDepth 100000 in
theorem xde_281 : xDe 281 := xDe_of (B := 30) xc_281 rfl xob_281 (by decide +kernel)
theorem xob_282 (pc : Nat) (h : 74 ≤ pc) : xc_282 pc = none := by
  unfold xc_282
  rw [xblt_f (show 35 ≤ pc by omega), cond_false, xblt_f (show 51 ≤ pc by omega), cond_false, xblt_f (show 62 ≤ pc by omega), cond_false, xblt_f (show 69 ≤ pc by omega), cond_false, xblt_f (show 72 ≤ pc by omega), cond_false, xblt_f (show 73 ≤ pc by omega), cond_false, xbeq_f (show pc ≠ 73 by omega), cond_false]
set_option maxRecDepth 100000 in
theorem xde_282 : xDe 282 := xDe_of (B := 74) xc_282 rfl xob_282 (by decide +kernel)
theorem xob_283 (pc : Nat) (h : 37 ≤ pc) : xc_283 pc = none := by
  unfold xc_283
  rw [xblt_f (show 15 ≤ pc by omega), cond_false, xblt_f (show 25 ≤ pc by omega), cond_false, xblt_f (show 32 ≤ pc by omega), cond_false, xblt_f (show 35 ≤ pc by omega), cond_false, xblt_f (show 36 ≤ pc by omega), cond_false, xbeq_f (show pc ≠ 36 by omega), cond_false]
set_option maxRecDepth 100000 in
theorem xde_283 : xDe 283 := xDe_of (B := 37) xc_283 rfl xob_283 (by decide +kernel)
theorem xob_284 (pc : Nat) (h : 83 ≤ pc) : xc_284 pc = none := by
  unfold xc_284
  rw [xblt_f (show 43 ≤ pc by omega), cond_false, xblt_f (show 64 ≤ pc by omega), cond_false, xblt_f (show 73 ≤ pc by omega), cond_false, xblt_f (show 76 ≤ pc by omega), cond_false, xblt_f (show 79 ≤ pc by omega), cond_false, xblt_f (show 82 ≤ pc by omega), cond_false, xbeq_f (show pc ≠ 82 by omega), cond_false]
set_option maxRecDepth 100000 in
theorem xde_284 : xDe 284 := xDe_of (B := 83) xc_284 rfl xob_284 (by decide +kernel)
theorem xob_285 (pc : Nat) (h : 83 ≤ pc) : xc_285 pc = none := by
  unfold xc_285
  rw [xblt_f (show 43 ≤ pc by omega), cond_false, xblt_f (show 64 ≤ pc by omega), cond_false, xblt_f (show 73 ≤ pc by omega), cond_false, xblt_f (show 76 ≤ pc by omega), cond_false, xblt_f (show 79 ≤ pc by omega), cond_false, xblt_f (show 82 ≤ pc by omega), cond_false, xbeq_f (show pc ≠ 82 by omega), cond_false]
set_option maxRecDepth 100000 in
theorem xde_285 : xDe 285 := xDe_of (B := 83) xc_285 rfl xob_285 (by decide +kernel)
theorem xob_286 (pc : Nat) (h : 17 ≤ pc) : xc_286 pc = none := by
  unfold xc_286
  rw [xblt_f (show 10 ≤ pc by omega), cond_false, xblt_f (show 14 ≤ pc by omega), cond_false, xblt_f (show 15 ≤ pc by omega), cond_false, xblt_f (show 16 ≤ pc by omega), cond_false, xbeq_f (show pc ≠ 16 by omega), cond_false]
set_option maxRecDepth 100000 in
theorem xde_286 : xDe 286 := xDe_of (B := 17) xc_286 rfl xob_286 (by decide +kernel)
theorem xob_287 (pc : Nat) (h : 17 ≤ pc) : xc_287 pc = none := by
  unfold xc_287
  rw [xblt_f (show 10 ≤ pc by omega), cond_false, xblt_f (show 14 ≤ pc by omega), cond_false, xblt_f (show 15 ≤ pc by omega), cond_false, xblt_f (show 16 ≤ pc by omega), cond_false, xbeq_f (show pc ≠ 16 by omega), cond_false]
set_option maxRecDepth 100000 in
theorem xde_287 : xDe 287 := xDe_of (B := 17) xc_287 rfl xob_287 (by decide +kernel)
theorem xob_288 (pc : Nat) (h : 14 ≤ pc) : xc_288 pc = none := by
  unfold xc_288
  rw [xblt_f (show 7 ≤ pc by omega), cond_false, xblt_f (show 9 ≤ pc by omega), cond_false, xblt_f (show 12 ≤ pc by omega), cond_false, xblt_f (show 13 ≤ pc by omega), cond_false, xbeq_f (show pc ≠ 13 by omega), cond_false]
set_option maxRecDepth 100000 in
theorem xde_288 : xDe 288 := xDe_of (B := 14) xc_288 rfl xob_288 (by decide +kernel)
theorem xob_289 (pc : Nat) (h : 24 ≤ pc) : xc_289 pc = none := by
  unfold xc_289
  rw [xblt_f (show 11 ≤ pc by omega), cond_false, xblt_f (show 16 ≤ pc by omega), cond_false, xblt_f (show 20 ≤ pc by omega), cond_false, xblt_f (show 23 ≤ pc by omega), cond_false, xbeq_f (show pc ≠ 23 by omega), cond_false]
set_option maxRecDepth 100000 in
theorem xde_289 : xDe 289 := xDe_of (B := 24) xc_289 rfl xob_289 (by decide +kernel)
theorem xob_290 (pc : Nat) (h : 78 ≤ pc) : xc_290 pc = none := by
  unfold xc_290
  rw [xblt_f (show 52 ≤ pc by omega), cond_false, xblt_f (show 65 ≤ pc by omega), cond_false, xblt_f (show 71 ≤ pc by omega), cond_false, xblt_f (show 75 ≤ pc by omega), cond_false, xblt_f (show 76 ≤ pc by omega), cond_false, xblt_f (show 77 ≤ pc by omega), cond_false, xbeq_f (show pc ≠ 77 by omega), cond_false]
set_option maxRecDepth 100000 in
theorem xde_290 : xDe 290 := xDe_of (B := 78) xc_290 rfl xob_290 (by decide +kernel)
theorem xob_291 (pc : Nat) (h : 32 ≤ pc) : xc_291 pc = none := by
  unfold xc_291
  rw [xblt_f (show 17 ≤ pc by omega), cond_false, xblt_f (show 23 ≤ pc by omega), cond_false, xblt_f (show 27 ≤ pc by omega), cond_false, xblt_f (show 30 ≤ pc by omega), cond_false, xblt_f (show 31 ≤ pc by omega), cond_false, xbeq_f (show pc ≠ 31 by omega), cond_false]
set_option maxRecDepth 100000 in
theorem xde_291 : xDe 291 := xDe_of (B := 32) xc_291 rfl xob_291 (by decide +kernel)
end
