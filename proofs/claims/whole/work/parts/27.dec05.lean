/-! the code tables are the bytes, on (printed by wip/tools/mk26.py) -/
noncomputable section
theorem xob_219 (pc : Nat) (h : 25 ≤ pc) : xc_219 pc = none := by
  unfold xc_219
  rw [xblt_f (show 11 ≤ pc by omega), cond_false, xblt_f (show 16 ≤ pc by omega), cond_false, xblt_f (show 22 ≤ pc by omega), cond_false, xblt_f (show 24 ≤ pc by omega), cond_false, xbeq_f (show pc ≠ 24 by omega), cond_false]
set_option maxRecDepth 100000 in
theorem xde_219 : xDe 219 := xDe_of (B := 25) xc_219 rfl xob_219 (by decide +kernel)
theorem xob_220 (pc : Nat) (h : 99 ≤ pc) : xc_220 pc = none := by
  unfold xc_220
  rw [xblt_f (show 47 ≤ pc by omega), cond_false, xblt_f (show 72 ≤ pc by omega), cond_false, xblt_f (show 85 ≤ pc by omega), cond_false, xblt_f (show 91 ≤ pc by omega), cond_false, xblt_f (show 97 ≤ pc by omega), cond_false, xblt_f (show 98 ≤ pc by omega), cond_false, xbeq_f (show pc ≠ 98 by omega), cond_false]
set_option maxRecDepth 100000 in
theorem xde_220 : xDe 220 := xDe_of (B := 99) xc_220 rfl xob_220 (by decide +kernel)
theorem xob_221 (pc : Nat) (h : 168 ≤ pc) : xc_221 pc = none := by
  unfold xc_221
  rw [xblt_f (show 79 ≤ pc by omega), cond_false, xblt_f (show 121 ≤ pc by omega), cond_false, xblt_f (show 144 ≤ pc by omega), cond_false, xblt_f (show 156 ≤ pc by omega), cond_false, xblt_f (show 163 ≤ pc by omega), cond_false, xblt_f (show 164 ≤ pc by omega), cond_false, xblt_f (show 167 ≤ pc by omega), cond_false, xbeq_f (show pc ≠ 167 by omega), cond_false]
set_option maxRecDepth 100000 in
theorem xde_221 : xDe 221 := xDe_of (B := 168) xc_221 rfl xob_221 (by decide +kernel)
theorem xob_222 (pc : Nat) (h : 37 ≤ pc) : xc_222 pc = none := by
  unfold xc_222
  rw [xblt_f (show 19 ≤ pc by omega), cond_false, xblt_f (show 28 ≤ pc by omega), cond_false, xblt_f (show 32 ≤ pc by omega), cond_false, xblt_f (show 35 ≤ pc by omega), cond_false, xblt_f (show 36 ≤ pc by omega), cond_false, xbeq_f (show pc ≠ 36 by omega), cond_false]
set_option maxRecDepth 100000 in
theorem xde_222 : xDe 222 := xDe_of (B := 37) xc_222 rfl xob_222 (by decide +kernel)
theorem xob_223 (pc : Nat) (h : 73 ≤ pc) : xc_223 pc = none := by
  unfold xc_223
  rw [xblt_f (show 36 ≤ pc by omega), cond_false, xblt_f (show 52 ≤ pc by omega), cond_false, xblt_f (show 61 ≤ pc by omega), cond_false, xblt_f (show 68 ≤ pc by omega), cond_false, xblt_f (show 69 ≤ pc by omega), cond_false, xblt_f (show 72 ≤ pc by omega), cond_false, xbeq_f (show pc ≠ 72 by omega), cond_false]
set_option maxRecDepth 100000 in
theorem xde_223 : xDe 223 := xDe_of (B := 73) xc_223 rfl xob_223 (by decide +kernel)
theorem xob_224 (pc : Nat) (h : 102 ≤ pc) : xc_224 pc = none := by
  unfold xc_224
  rw [xblt_f (show 52 ≤ pc by omega), cond_false, xblt_f (show 74 ≤ pc by omega), cond_false, xblt_f (show 86 ≤ pc by omega), cond_false, xblt_f (show 93 ≤ pc by omega), cond_false, xblt_f (show 99 ≤ pc by omega), cond_false, xblt_f (show 101 ≤ pc by omega), cond_false, xbeq_f (show pc ≠ 101 by omega), cond_false]
set_option maxRecDepth 100000 in
theorem xde_224 : xDe 224 := xDe_of (B := 102) xc_224 rfl xob_224 (by decide +kernel)
theorem xob_225 (pc : Nat) (h : 195 ≤ pc) : xc_225 pc = none := by
  unfold xc_225
  rw [xblt_f (show 122 ≤ pc by omega), cond_false, xblt_f (show 159 ≤ pc by omega), cond_false, xblt_f (show 175 ≤ pc by omega), cond_false, xblt_f (show 185 ≤ pc by omega), cond_false, xblt_f (show 192 ≤ pc by omega), cond_false, xblt_f (show 193 ≤ pc by omega), cond_false, xblt_f (show 194 ≤ pc by omega), cond_false, xbeq_f (show pc ≠ 194 by omega), cond_false]
set_option maxRecDepth 100000 in
theorem xde_225 : xDe 225 := xDe_of (B := 195) xc_225 rfl xob_225 (by decide +kernel)
theorem xob_226 (pc : Nat) (h : 37 ≤ pc) : xc_226 pc = none := by
  unfold xc_226
  rw [xblt_f (show 21 ≤ pc by omega), cond_false, xblt_f (show 29 ≤ pc by omega), cond_false, xblt_f (show 34 ≤ pc by omega), cond_false, xblt_f (show 35 ≤ pc by omega), cond_false, xblt_f (show 36 ≤ pc by omega), cond_false, xbeq_f (show pc ≠ 36 by omega), cond_false]
set_option maxRecDepth 100000 in
theorem xde_226 : xDe 226 := xDe_of (B := 37) xc_226 rfl xob_226 (by decide +kernel)
theorem xob_227 (pc : Nat) (h : 42 ≤ pc) : xc_227 pc = none := by
  unfold xc_227
  rw [xblt_f (show 24 ≤ pc by omega), cond_false, xblt_f (show 33 ≤ pc by omega), cond_false, xblt_f (show 36 ≤ pc by omega), cond_false, xblt_f (show 40 ≤ pc by omega), cond_false, xblt_f (show 41 ≤ pc by omega), cond_false, xbeq_f (show pc ≠ 41 by omega), cond_false]
set_option maxRecDepth 100000 in
theorem xde_227 : xDe 227 := xDe_of (B := 42) xc_227 rfl xob_227 (by decide +kernel)
theorem xob_228 (pc : Nat) (h : 138 ≤ pc) : xc_228 pc = none := by
  unfold xc_228
  rw [xblt_f (show 69 ≤ pc by omega), cond_false, xblt_f (show 101 ≤ pc by omega), cond_false, xblt_f (show 122 ≤ pc by omega), cond_false, xblt_f (show 131 ≤ pc by omega), cond_false, xblt_f (show 133 ≤ pc by omega), cond_false, xblt_f (show 136 ≤ pc by omega), cond_false, xblt_f (show 137 ≤ pc by omega), cond_false, xbeq_f (show pc ≠ 137 by omega), cond_false]
set_option maxRecDepth 100000 in
theorem xde_228 : xDe 228 := xDe_of (B := 138) xc_228 rfl xob_228 (by decide +kernel)
theorem xob_229 (pc : Nat) (h : 75 ≤ pc) : xc_229 pc = none := by
  unfold xc_229
  rw [xblt_f (show 35 ≤ pc by omega), cond_false, xblt_f (show 55 ≤ pc by omega), cond_false, xblt_f (show 63 ≤ pc by omega), cond_false, xblt_f (show 68 ≤ pc by omega), cond_false, xblt_f (show 71 ≤ pc by omega), cond_false, xblt_f (show 74 ≤ pc by omega), cond_false, xbeq_f (show pc ≠ 74 by omega), cond_false]
set_option maxRecDepth 100000 in
theorem xde_229 : xDe 229 := xDe_of (B := 75) xc_229 rfl xob_229 (by decide +kernel)
theorem xob_230 (pc : Nat) (h : 97 ≤ pc) : xc_230 pc = none := by
  unfold xc_230
  rw [xblt_f (show 48 ≤ pc by omega), cond_false, xblt_f (show 73 ≤ pc by omega), cond_false, xblt_f (show 83 ≤ pc by omega), cond_false, xblt_f (show 89 ≤ pc by omega), cond_false, xblt_f (show 93 ≤ pc by omega), cond_false, xblt_f (show 96 ≤ pc by omega), cond_false, xbeq_f (show pc ≠ 96 by omega), cond_false]
set_option maxRecDepth 100000 in
theorem xde_230 : xDe 230 := xDe_of (B := 97) xc_230 rfl xob_230 (by decide +kernel)
theorem xob_231 (pc : Nat) (h : 24 ≤ pc) : xc_231 pc = none := by
  unfold xc_231
  rw [xblt_f (show 12 ≤ pc by omega), cond_false, xblt_f (show 18 ≤ pc by omega), cond_false, xblt_f (show 22 ≤ pc by omega), cond_false, xblt_f (show 23 ≤ pc by omega), cond_false, xbeq_f (show pc ≠ 23 by omega), cond_false]
set_option maxRecDepth 100000 in
theorem xde_231 : xDe 231 := xDe_of (B := 24) xc_231 rfl xob_231 (by decide +kernel)
theorem xob_232 (pc : Nat) (h : 129 ≤ pc) : xc_232 pc = none := by
  unfold xc_232
  rw [xblt_f (show 59 ≤ pc by omega), cond_false, xblt_f (show 95 ≤ pc by omega), cond_false, xblt_f (show 111 ≤ pc by omega), cond_false, xblt_f (show 118 ≤ pc by omega), cond_false, xblt_f (show 122 ≤ pc by omega), cond_false, xblt_f (show 125 ≤ pc by omega), cond_false, xblt_f (show 128 ≤ pc by omega), cond_false, xbeq_f (show pc ≠ 128 by omega), cond_false]
set_option maxRecDepth 100000 in
theorem xde_232 : xDe 232 := xDe_of (B := 129) xc_232 rfl xob_232 (by decide +kernel)
theorem xob_233 (pc : Nat) (h : 126 ≤ pc) : xc_233 pc = none := by
  unfold xc_233
  rw [xblt_f (show 61 ≤ pc by omega), cond_false, xblt_f (show 92 ≤ pc by omega), cond_false, xblt_f (show 108 ≤ pc by omega), cond_false, xblt_f (show 116 ≤ pc by omega), cond_false, xblt_f (show 121 ≤ pc by omega), cond_false, xblt_f (show 124 ≤ pc by omega), cond_false, xblt_f (show 125 ≤ pc by omega), cond_false, xbeq_f (show pc ≠ 125 by omega), cond_false]
set_option maxRecDepth 100000 in
theorem xde_233 : xDe 233 := xDe_of (B := 126) xc_233 rfl xob_233 (by decide +kernel)
theorem xob_234 (pc : Nat) (h : 98 ≤ pc) : xc_234 pc = none := by
  unfold xc_234
  rw [xblt_f (show 45 ≤ pc by omega), cond_false, xblt_f (show 67 ≤ pc by omega), cond_false, xblt_f (show 80 ≤ pc by omega), cond_false, xblt_f (show 89 ≤ pc by omega), cond_false, xblt_f (show 95 ≤ pc by omega), cond_false, xblt_f (show 97 ≤ pc by omega), cond_false, xbeq_f (show pc ≠ 97 by omega), cond_false]
set_option maxRecDepth 100000 in
theorem xde_234 : xDe 234 := xDe_of (B := 98) xc_234 rfl xob_234 (by decide +kernel)
theorem xob_235 (pc : Nat) (h : 107 ≤ pc) : xc_235 pc = none := by
  unfold xc_235
  rw [xblt_f (show 50 ≤ pc by omega), cond_false, xblt_f (show 72 ≤ pc by omega), cond_false, xblt_f (show 88 ≤ pc by omega), cond_false, xblt_f (show 96 ≤ pc by omega), cond_false, xblt_f (show 100 ≤ pc by omega), cond_false, xblt_f (show 103 ≤ pc by omega), cond_false, xblt_f (show 106 ≤ pc by omega), cond_false, xbeq_f (show pc ≠ 106 by omega), cond_false]
set_option maxRecDepth 100000 in
theorem xde_235 : xDe 235 := xDe_of (B := 107) xc_235 rfl xob_235 (by decide +kernel)
theorem xob_236 (pc : Nat) (h : 118 ≤ pc) : xc_236 pc = none := by
  unfold xc_236
  rw [xblt_f (show 58 ≤ pc by omega), cond_false, xblt_f (show 89 ≤ pc by omega), cond_false, xblt_f (show 102 ≤ pc by omega), cond_false, xblt_f (show 111 ≤ pc by omega), cond_false, xblt_f (show 113 ≤ pc by omega), cond_false, xblt_f (show 116 ≤ pc by omega), cond_false, xblt_f (show 117 ≤ pc by omega), cond_false, xbeq_f (show pc ≠ 117 by omega), cond_false]
set_option maxRecDepth 100000 in
theorem xde_236 : xDe 236 := xDe_of (B := 118) xc_236 rfl xob_236 (by decide +kernel)
theorem xob_237 (pc : Nat) (h : 31 ≤ pc) : xc_237 pc = none := by
  unfold xc_237
  rw [xblt_f (show 15 ≤ pc by omega), cond_false, xblt_f (show 22 ≤ pc by omega), cond_false, xblt_f (show 26 ≤ pc by omega), cond_false, xblt_f (show 29 ≤ pc by omega), cond_false, xblt_f (show 30 ≤ pc by omega), cond_false, xbeq_f (show pc ≠ 30 by omega), cond_false]
set_option maxRecDepth 100000 in
theorem xde_237 : xDe 237 := xDe_of (B := 31) xc_237 rfl xob_237 (by decide +kernel)
theorem xob_238 (pc : Nat) (h : 39 ≤ pc) : xc_238 pc = none := by
  unfold xc_238
  rw [xblt_f (show 18 ≤ pc by omega), cond_false, xblt_f (show 28 ≤ pc by omega), cond_false, xblt_f (show 31 ≤ pc by omega), cond_false, xblt_f (show 37 ≤ pc by omega), cond_false, xblt_f (show 38 ≤ pc by omega), cond_false, xbeq_f (show pc ≠ 38 by omega), cond_false]
set_option maxRecDepth 100000 in
theorem xde_238 : xDe 238 := xDe_of (B := 39) xc_238 rfl xob_238 (by decide +kernel)
theorem xob_239 (pc : Nat) (h : 43 ≤ pc) : xc_239 pc = none := by
  unfold xc_239
  rw [xblt_f (show 19 ≤ pc by omega), cond_false, xblt_f (show 32 ≤ pc by omega), cond_false, xblt_f (show 35 ≤ pc by omega), cond_false, xblt_f (show 41 ≤ pc by omega), cond_false, xblt_f (show 42 ≤ pc by omega), cond_false, xbeq_f (show pc ≠ 42 by omega), cond_false]
set_option maxRecDepth 100000 in
theorem xde_239 : xDe 239 := xDe_of (B := 43) xc_239 rfl xob_239 (by decide +kernel)
theorem xob_240 (pc : Nat) (h : 122 ≤ pc) : xc_240 pc = none := by
  unfold xc_240
  rw [xblt_f (show 58 ≤ pc by omega), cond_false, xblt_f (show 91 ≤ pc by omega), cond_false, xblt_f (show 101 ≤ pc by omega), cond_false, xblt_f (show 109 ≤ pc by omega), cond_false, xblt_f (show 115 ≤ pc by omega), cond_false, xblt_f (show 118 ≤ pc by omega), cond_false, xblt_f (show 121 ≤ pc by omega), cond_false, xbeq_f (show pc ≠ 121 by omega), cond_false]
set_option maxRecDepth 100000 in
theorem xde_240 : xDe 240 := xDe_of (B := 122) xc_240 rfl xob_240 (by decide +kernel)
theorem xob_241 (pc : Nat) (h : 13 ≤ pc) : xc_241 pc = none := by
  unfold xc_241
  rw [xblt_f (show 5 ≤ pc by omega), cond_false, xblt_f (show 11 ≤ pc by omega), cond_false, xblt_f (show 12 ≤ pc by omega), cond_false, xbeq_f (show pc ≠ 12 by omega), cond_false]
set_option maxRecDepth 100000 in
theorem xde_241 : xDe 241 := xDe_of (B := 13) xc_241 rfl xob_241 (by decide +kernel)
theorem xob_242 (pc : Nat) (h : 160 ≤ pc) : xc_242 pc = none := by
  unfold xc_242
  rw [xblt_f (show 79 ≤ pc by omega), cond_false, xblt_f (show 117 ≤ pc by omega), cond_false, xblt_f (show 136 ≤ pc by omega), cond_false, xblt_f (show 144 ≤ pc by omega), cond_false, xblt_f (show 153 ≤ pc by omega), cond_false, xblt_f (show 156 ≤ pc by omega), cond_false, xblt_f (show 159 ≤ pc by omega), cond_false, xbeq_f (show pc ≠ 159 by omega), cond_false]
set_option maxRecDepth 100000 in
theorem xde_242 : xDe 242 := xDe_of (B := 160) xc_242 rfl xob_242 (by decide +kernel)
theorem xob_243 (pc : Nat) (h : 60 ≤ pc) : xc_243 pc = none := by
  unfold xc_243
  rw [xblt_f (show 32 ≤ pc by omega), cond_false, xblt_f (show 47 ≤ pc by omega), cond_false, xblt_f (show 51 ≤ pc by omega), cond_false, xblt_f (show 55 ≤ pc by omega), cond_false, xblt_f (show 58 ≤ pc by omega), cond_false, xblt_f (show 59 ≤ pc by omega), cond_false, xbeq_f (show pc ≠ 59 by omega), cond_false]
set_option maxRecDepth 100000 in
theorem xde_243 : xDe 243 := xDe_of (B := 60) xc_243 rfl xob_243 (by decide +kernel)
theorem xob_244 (pc : Nat) (h : 72 ≤ pc) : xc_244 pc = none := by
  unfold xc_244
  rw [xblt_f (show 36 ≤ pc by omega), cond_false, xblt_f (show 53 ≤ pc by omega), cond_false, xblt_f (show 62 ≤ pc by omega), cond_false, xblt_f (show 67 ≤ pc by omega), cond_false, xblt_f (show 70 ≤ pc by omega), cond_false, xblt_f (show 71 ≤ pc by omega), cond_false, xbeq_f (show pc ≠ 71 by omega), cond_false]
set_option maxRecDepth 100000 in
theorem xde_244 : xDe 244 := xDe_of (B := 72) xc_244 rfl xob_244 (by decide +kernel)
theorem xob_245 (pc : Nat) (h : 98 ≤ pc) : xc_245 pc = none := by
  unfold xc_245
  rw [xblt_f (show 44 ≤ pc by omega), cond_false, xblt_f (show 69 ≤ pc by omega), cond_false, xblt_f (show 84 ≤ pc by omega), cond_false, xblt_f (show 90 ≤ pc by omega), cond_false, xblt_f (show 94 ≤ pc by omega), cond_false, xblt_f (show 97 ≤ pc by omega), cond_false, xbeq_f (show pc ≠ 97 by omega), cond_false]
set_option maxRecDepth 100000 in
theorem xde_245 : xDe 245 := xDe_of (B := 98) xc_245 rfl xob_245 (by decide +kernel)
theorem xob_246 (pc : Nat) (h : 215 ≤ pc) : xc_246 pc = none := by
  unfold xc_246
  rw [xblt_f (show 109 ≤ pc by omega), cond_false, xblt_f (show 160 ≤ pc by omega), cond_false, xblt_f (show 188 ≤ pc by omega), cond_false, xblt_f (show 200 ≤ pc by omega), cond_false, xblt_f (show 208 ≤ pc by omega), cond_false, xblt_f (show 211 ≤ pc by omega), cond_false, xblt_f (show 214 ≤ pc by omega), cond_false, xbeq_f (show pc ≠ 214 by omega), cond_false]
set_option maxRecDepth 100000 in
theorem xde_246 : xDe 246 := xDe_of (B := 215) xc_246 rfl xob_246 (by decide +kernel)
theorem xob_247 (pc : Nat) (h : 13 ≤ pc) : xc_247 pc = none := by
  unfold xc_247
  rw [xblt_f (show 7 ≤ pc by omega), cond_false, xblt_f (show 11 ≤ pc by omega), cond_false, xblt_f (show 12 ≤ pc by omega), cond_false, xbeq_f (show pc ≠ 12 by omega), cond_false]
set_option maxRecDepth 100000 in
theorem xde_247 : xDe 247 := xDe_of (B := 13) xc_247 rfl xob_247 (by decide +kernel)
theorem xob_248 (pc : Nat) (h : 18 ≤ pc) : xc_248 pc = none := by
  unfold xc_248
  rw [xblt_f (show 9 ≤ pc by omega), cond_false, xblt_f (show 13 ≤ pc by omega), cond_false, xblt_f (show 16 ≤ pc by omega), cond_false, xblt_f (show 17 ≤ pc by omega), cond_false, xbeq_f (show pc ≠ 17 by omega), cond_false]
set_option maxRecDepth 100000 in
theorem xde_248 : xDe 248 := xDe_of (B := 18) xc_248 rfl xob_248 (by decide +kernel)
theorem xob_249 (pc : Nat) (h : 18 ≤ pc) : xc_249 pc = none := by
  unfold xc_249
  rw [xblt_f (show 9 ≤ pc by omega), cond_false, xblt_f (show 13 ≤ pc by omega), cond_false, xblt_f (show 16 ≤ pc by omega), cond_false, xblt_f (show 17 ≤ pc by omega), cond_false, xbeq_f (show pc ≠ 17 by omega), cond_false]
set_option maxRecDepth 100000 in
theorem xde_249 : xDe 249 := xDe_of (B := 18) xc_249 rfl xob_249 (by decide +kernel)
theorem xob_250 (pc : Nat) (h : 52 ≤ pc) : xc_250 pc = none := by
  unfold xc_250
  rw [xblt_f (show 26 ≤ pc by omega), cond_false, xblt_f (show 38 ≤ pc by omega), cond_false, xblt_f (show 46 ≤ pc by omega), cond_false, xblt_f (show 50 ≤ pc by omega), cond_false, xblt_f (show 51 ≤ pc by omega), cond_false, xbeq_f (show pc ≠ 51 by omega), cond_false]
set_option maxRecDepth 100000 in
theorem xde_250 : xDe 250 := xDe_of (B := 52) xc_250 rfl xob_250 (by decide +kernel)
theorem xob_251 (pc : Nat) (h : 57 ≤ pc) : xc_251 pc = none := by
  unfold xc_251
  rw [xblt_f (show 27 ≤ pc by omega), cond_false, xblt_f (show 40 ≤ pc by omega), cond_false, xblt_f (show 47 ≤ pc by omega), cond_false, xblt_f (show 52 ≤ pc by omega), cond_false, xblt_f (show 55 ≤ pc by omega), cond_false, xblt_f (show 56 ≤ pc by omega), cond_false, xbeq_f (show pc ≠ 56 by omega), cond_false]
set_option maxRecDepth 100000 in
theorem xde_251 : xDe 251 := xDe_of (B := 57) xc_251 rfl xob_251 (by decide +kernel)
end
