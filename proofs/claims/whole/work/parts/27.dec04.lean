/-! the code tables are the bytes, on (printed by wip/tools/mk26.py) -/
noncomputable section
theorem xob_184 (pc : Nat) (h : 39 ≤ pc) : xc_184 pc = none := by
  unfold xc_184
  rw [xblt_f (show 16 ≤ pc by omega), cond_false, xblt_f (show 27 ≤ pc by omega), cond_false, xblt_f (show 34 ≤ pc by omega), cond_false, xblt_f (show 37 ≤ pc by omega), cond_false, xblt_f (show 38 ≤ pc by omega), cond_false, xbeq_f (show pc ≠ 38 by omega), cond_false]
set_option maxRecDepth 100000 in
theorem xde_184 : xDe 184 := xDe_of (B := 39) xc_184 rfl xob_184 (by decide +kernel)
theorem xob_185 (pc : Nat) (h : 303 ≤ pc) : xc_185 pc = none := by
  unfold xc_185
  rw [xblt_f (show 150 ≤ pc by omega), cond_false, xblt_f (show 226 ≤ pc by omega), cond_false, xblt_f (show 262 ≤ pc by omega), cond_false, xblt_f (show 286 ≤ pc by omega), cond_false, xblt_f (show 296 ≤ pc by omega), cond_false, xblt_f (show 300 ≤ pc by omega), cond_false, xblt_f (show 301 ≤ pc by omega), cond_false, xblt_f (show 302 ≤ pc by omega), cond_false, xbeq_f (show pc ≠ 302 by omega), cond_false]
set_option maxRecDepth 100000 in
theorem xde_185 : xDe 185 := xDe_of (B := 303) xc_185 rfl xob_185 (by decide +kernel)
theorem xob_186 (pc : Nat) (h : 72 ≤ pc) : xc_186 pc = none := by
  unfold xc_186
  rw [xblt_f (show 37 ≤ pc by omega), cond_false, xblt_f (show 54 ≤ pc by omega), cond_false, xblt_f (show 63 ≤ pc by omega), cond_false, xblt_f (show 67 ≤ pc by omega), cond_false, xblt_f (show 70 ≤ pc by omega), cond_false, xblt_f (show 71 ≤ pc by omega), cond_false, xbeq_f (show pc ≠ 71 by omega), cond_false]
set_option maxRecDepth 100000 in
theorem xde_186 : xDe 186 := xDe_of (B := 72) xc_186 rfl xob_186 (by decide +kernel)
theorem xob_187 (pc : Nat) (h : 31 ≤ pc) : xc_187 pc = none := by
  unfold xc_187
  rw [xblt_f (show 14 ≤ pc by omega), cond_false, xblt_f (show 24 ≤ pc by omega), cond_false, xblt_f (show 26 ≤ pc by omega), cond_false, xblt_f (show 27 ≤ pc by omega), cond_false, xblt_f (show 30 ≤ pc by omega), cond_false, xbeq_f (show pc ≠ 30 by omega), cond_false]
set_option maxRecDepth 100000 in
theorem xde_187 : xDe 187 := xDe_of (B := 31) xc_187 rfl xob_187 (by decide +kernel)
theorem xob_188 (pc : Nat) (h : 31 ≤ pc) : xc_188 pc = none := by
  unfold xc_188
  rw [xblt_f (show 14 ≤ pc by omega), cond_false, xblt_f (show 24 ≤ pc by omega), cond_false, xblt_f (show 26 ≤ pc by omega), cond_false, xblt_f (show 27 ≤ pc by omega), cond_false, xblt_f (show 30 ≤ pc by omega), cond_false, xbeq_f (show pc ≠ 30 by omega), cond_false]
set_option maxRecDepth 100000 in
theorem xde_188 : xDe 188 := xDe_of (B := 31) xc_188 rfl xob_188 (by decide +kernel)
theorem xob_189 (pc : Nat) (h : 135 ≤ pc) : xc_189 pc = none := by
  unfold xc_189
  rw [xblt_f (show 63 ≤ pc by omega), cond_false, xblt_f (show 99 ≤ pc by omega), cond_false, xblt_f (show 117 ≤ pc by omega), cond_false, xblt_f (show 126 ≤ pc by omega), cond_false, xblt_f (show 130 ≤ pc by omega), cond_false, xblt_f (show 131 ≤ pc by omega), cond_false, xblt_f (show 134 ≤ pc by omega), cond_false, xbeq_f (show pc ≠ 134 by omega), cond_false]
set_option maxRecDepth 100000 in
theorem xde_189 : xDe 189 := xDe_of (B := 135) xc_189 rfl xob_189 (by decide +kernel)
theorem xob_190 (pc : Nat) (h : 19 ≤ pc) : xc_190 pc = none := by
  unfold xc_190
  rw [xblt_f (show 8 ≤ pc by omega), cond_false, xblt_f (show 13 ≤ pc by omega), cond_false, xblt_f (show 17 ≤ pc by omega), cond_false, xblt_f (show 18 ≤ pc by omega), cond_false, xbeq_f (show pc ≠ 18 by omega), cond_false]
set_option maxRecDepth 100000 in
theorem xde_190 : xDe 190 := xDe_of (B := 19) xc_190 rfl xob_190 (by decide +kernel)
theorem xob_191 (pc : Nat) (h : 25 ≤ pc) : xc_191 pc = none := by
  unfold xc_191
  rw [xblt_f (show 11 ≤ pc by omega), cond_false, xblt_f (show 16 ≤ pc by omega), cond_false, xblt_f (show 22 ≤ pc by omega), cond_false, xblt_f (show 24 ≤ pc by omega), cond_false, xbeq_f (show pc ≠ 24 by omega), cond_false]
set_option maxRecDepth 100000 in
theorem xde_191 : xDe 191 := xDe_of (B := 25) xc_191 rfl xob_191 (by decide +kernel)
theorem xob_192 (pc : Nat) (h : 64 ≤ pc) : xc_192 pc = none := by
  unfold xc_192
  rw [xblt_f (show 30 ≤ pc by omega), cond_false, xblt_f (show 45 ≤ pc by omega), cond_false, xblt_f (show 55 ≤ pc by omega), cond_false, xblt_f (show 59 ≤ pc by omega), cond_false, xblt_f (show 62 ≤ pc by omega), cond_false, xblt_f (show 63 ≤ pc by omega), cond_false, xbeq_f (show pc ≠ 63 by omega), cond_false]
set_option maxRecDepth 100000 in
theorem xde_192 : xDe 192 := xDe_of (B := 64) xc_192 rfl xob_192 (by decide +kernel)
theorem xob_193 (pc : Nat) (h : 36 ≤ pc) : xc_193 pc = none := by
  unfold xc_193
  rw [xblt_f (show 18 ≤ pc by omega), cond_false, xblt_f (show 26 ≤ pc by omega), cond_false, xblt_f (show 33 ≤ pc by omega), cond_false, xblt_f (show 34 ≤ pc by omega), cond_false, xblt_f (show 35 ≤ pc by omega), cond_false, xbeq_f (show pc ≠ 35 by omega), cond_false]
set_option maxRecDepth 100000 in
theorem xde_193 : xDe 193 := xDe_of (B := 36) xc_193 rfl xob_193 (by decide +kernel)
theorem xob_194 (pc : Nat) (h : 35 ≤ pc) : xc_194 pc = none := by
  unfold xc_194
  rw [xblt_f (show 17 ≤ pc by omega), cond_false, xblt_f (show 27 ≤ pc by omega), cond_false, xblt_f (show 31 ≤ pc by omega), cond_false, xblt_f (show 33 ≤ pc by omega), cond_false, xblt_f (show 34 ≤ pc by omega), cond_false, xbeq_f (show pc ≠ 34 by omega), cond_false]
set_option maxRecDepth 100000 in
theorem xde_194 : xDe 194 := xDe_of (B := 35) xc_194 rfl xob_194 (by decide +kernel)
theorem xob_195 (pc : Nat) (h : 70 ≤ pc) : xc_195 pc = none := by
  unfold xc_195
  rw [xblt_f (show 33 ≤ pc by omega), cond_false, xblt_f (show 52 ≤ pc by omega), cond_false, xblt_f (show 59 ≤ pc by omega), cond_false, xblt_f (show 64 ≤ pc by omega), cond_false, xblt_f (show 67 ≤ pc by omega), cond_false, xblt_f (show 69 ≤ pc by omega), cond_false, xbeq_f (show pc ≠ 69 by omega), cond_false]
set_option maxRecDepth 100000 in
theorem xde_195 : xDe 195 := xDe_of (B := 70) xc_195 rfl xob_195 (by decide +kernel)
theorem xob_196 (pc : Nat) (h : 118 ≤ pc) : xc_196 pc = none := by
  unfold xc_196
  rw [xblt_f (show 55 ≤ pc by omega), cond_false, xblt_f (show 85 ≤ pc by omega), cond_false, xblt_f (show 100 ≤ pc by omega), cond_false, xblt_f (show 107 ≤ pc by omega), cond_false, xblt_f (show 113 ≤ pc by omega), cond_false, xblt_f (show 116 ≤ pc by omega), cond_false, xblt_f (show 117 ≤ pc by omega), cond_false, xbeq_f (show pc ≠ 117 by omega), cond_false]
set_option maxRecDepth 100000 in
theorem xde_196 : xDe 196 := xDe_of (B := 118) xc_196 rfl xob_196 (by decide +kernel)
theorem xob_197 (pc : Nat) (h : 152 ≤ pc) : xc_197 pc = none := by
  unfold xc_197
  rw [xblt_f (show 81 ≤ pc by omega), cond_false, xblt_f (show 121 ≤ pc by omega), cond_false, xblt_f (show 138 ≤ pc by omega), cond_false, xblt_f (show 146 ≤ pc by omega), cond_false, xblt_f (show 149 ≤ pc by omega), cond_false, xblt_f (show 150 ≤ pc by omega), cond_false, xblt_f (show 151 ≤ pc by omega), cond_false, xbeq_f (show pc ≠ 151 by omega), cond_false]
set_option maxRecDepth 100000 in
theorem xde_197 : xDe 197 := xDe_of (B := 152) xc_197 rfl xob_197 (by decide +kernel)
theorem xob_198 (pc : Nat) (h : 46 ≤ pc) : xc_198 pc = none := by
  unfold xc_198
  rw [xblt_f (show 21 ≤ pc by omega), cond_false, xblt_f (show 35 ≤ pc by omega), cond_false, xblt_f (show 38 ≤ pc by omega), cond_false, xblt_f (show 44 ≤ pc by omega), cond_false, xblt_f (show 45 ≤ pc by omega), cond_false, xbeq_f (show pc ≠ 45 by omega), cond_false]
set_option maxRecDepth 100000 in
theorem xde_198 : xDe 198 := xDe_of (B := 46) xc_198 rfl xob_198 (by decide +kernel)
theorem xob_199 (pc : Nat) (h : 32 ≤ pc) : xc_199 pc = none := by
  unfold xc_199
  rw [xblt_f (show 16 ≤ pc by omega), cond_false, xblt_f (show 23 ≤ pc by omega), cond_false, xblt_f (show 25 ≤ pc by omega), cond_false, xblt_f (show 28 ≤ pc by omega), cond_false, xblt_f (show 31 ≤ pc by omega), cond_false, xbeq_f (show pc ≠ 31 by omega), cond_false]
set_option maxRecDepth 100000 in
theorem xde_199 : xDe 199 := xDe_of (B := 32) xc_199 rfl xob_199 (by decide +kernel)
theorem xob_200 (pc : Nat) (h : 72 ≤ pc) : xc_200 pc = none := by
  unfold xc_200
  rw [xblt_f (show 34 ≤ pc by omega), cond_false, xblt_f (show 51 ≤ pc by omega), cond_false, xblt_f (show 62 ≤ pc by omega), cond_false, xblt_f (show 67 ≤ pc by omega), cond_false, xblt_f (show 70 ≤ pc by omega), cond_false, xblt_f (show 71 ≤ pc by omega), cond_false, xbeq_f (show pc ≠ 71 by omega), cond_false]
set_option maxRecDepth 100000 in
theorem xde_200 : xDe 200 := xDe_of (B := 72) xc_200 rfl xob_200 (by decide +kernel)
theorem xob_201 (pc : Nat) (h : 110 ≤ pc) : xc_201 pc = none := by
  unfold xc_201
  rw [xblt_f (show 52 ≤ pc by omega), cond_false, xblt_f (show 79 ≤ pc by omega), cond_false, xblt_f (show 94 ≤ pc by omega), cond_false, xblt_f (show 102 ≤ pc by omega), cond_false, xblt_f (show 108 ≤ pc by omega), cond_false, xblt_f (show 109 ≤ pc by omega), cond_false, xbeq_f (show pc ≠ 109 by omega), cond_false]
set_option maxRecDepth 100000 in
theorem xde_201 : xDe 201 := xDe_of (B := 110) xc_201 rfl xob_201 (by decide +kernel)
theorem xob_202 (pc : Nat) (h : 90 ≤ pc) : xc_202 pc = none := by
  unfold xc_202
  rw [xblt_f (show 42 ≤ pc by omega), cond_false, xblt_f (show 65 ≤ pc by omega), cond_false, xblt_f (show 77 ≤ pc by omega), cond_false, xblt_f (show 84 ≤ pc by omega), cond_false, xblt_f (show 88 ≤ pc by omega), cond_false, xblt_f (show 89 ≤ pc by omega), cond_false, xbeq_f (show pc ≠ 89 by omega), cond_false]
set_option maxRecDepth 100000 in
theorem xde_202 : xDe 202 := xDe_of (B := 90) xc_202 rfl xob_202 (by decide +kernel)
theorem xob_203 (pc : Nat) (h : 151 ≤ pc) : xc_203 pc = none := by
  unfold xc_203
  rw [xblt_f (show 72 ≤ pc by omega), cond_false, xblt_f (show 110 ≤ pc by omega), cond_false, xblt_f (show 132 ≤ pc by omega), cond_false, xblt_f (show 141 ≤ pc by omega), cond_false, xblt_f (show 146 ≤ pc by omega), cond_false, xblt_f (show 149 ≤ pc by omega), cond_false, xblt_f (show 150 ≤ pc by omega), cond_false, xbeq_f (show pc ≠ 150 by omega), cond_false]
set_option maxRecDepth 100000 in
theorem xde_203 : xDe 203 := xDe_of (B := 151) xc_203 rfl xob_203 (by decide +kernel)
theorem xob_204 (pc : Nat) (h : 118 ≤ pc) : xc_204 pc = none := by
  unfold xc_204
  rw [xblt_f (show 55 ≤ pc by omega), cond_false, xblt_f (show 84 ≤ pc by omega), cond_false, xblt_f (show 103 ≤ pc by omega), cond_false, xblt_f (show 109 ≤ pc by omega), cond_false, xblt_f (show 113 ≤ pc by omega), cond_false, xblt_f (show 116 ≤ pc by omega), cond_false, xblt_f (show 117 ≤ pc by omega), cond_false, xbeq_f (show pc ≠ 117 by omega), cond_false]
set_option maxRecDepth 100000 in
theorem xde_204 : xDe 204 := xDe_of (B := 118) xc_204 rfl xob_204 (by decide +kernel)
theorem xob_205 (pc : Nat) (h : 113 ≤ pc) : xc_205 pc = none := by
  unfold xc_205
  rw [xblt_f (show 51 ≤ pc by omega), cond_false, xblt_f (show 79 ≤ pc by omega), cond_false, xblt_f (show 95 ≤ pc by omega), cond_false, xblt_f (show 103 ≤ pc by omega), cond_false, xblt_f (show 109 ≤ pc by omega), cond_false, xblt_f (show 112 ≤ pc by omega), cond_false, xbeq_f (show pc ≠ 112 by omega), cond_false]
set_option maxRecDepth 100000 in
theorem xde_205 : xDe 205 := xDe_of (B := 113) xc_205 rfl xob_205 (by decide +kernel)
theorem xob_206 (pc : Nat) (h : 28 ≤ pc) : xc_206 pc = none := by
  unfold xc_206
  rw [xblt_f (show 13 ≤ pc by omega), cond_false, xblt_f (show 19 ≤ pc by omega), cond_false, xblt_f (show 23 ≤ pc by omega), cond_false, xblt_f (show 24 ≤ pc by omega), cond_false, xblt_f (show 27 ≤ pc by omega), cond_false, xbeq_f (show pc ≠ 27 by omega), cond_false]
set_option maxRecDepth 100000 in
theorem xde_206 : xDe 206 := xDe_of (B := 28) xc_206 rfl xob_206 (by decide +kernel)
theorem xob_207 (pc : Nat) (h : 28 ≤ pc) : xc_207 pc = none := by
  unfold xc_207
  rw [xblt_f (show 13 ≤ pc by omega), cond_false, xblt_f (show 19 ≤ pc by omega), cond_false, xblt_f (show 23 ≤ pc by omega), cond_false, xblt_f (show 24 ≤ pc by omega), cond_false, xblt_f (show 27 ≤ pc by omega), cond_false, xbeq_f (show pc ≠ 27 by omega), cond_false]
set_option maxRecDepth 100000 in
theorem xde_207 : xDe 207 := xDe_of (B := 28) xc_207 rfl xob_207 (by decide +kernel)
theorem xob_208 (pc : Nat) (h : 76 ≤ pc) : xc_208 pc = none := by
  unfold xc_208
  rw [xblt_f (show 38 ≤ pc by omega), cond_false, xblt_f (show 60 ≤ pc by omega), cond_false, xblt_f (show 68 ≤ pc by omega), cond_false, xblt_f (show 73 ≤ pc by omega), cond_false, xblt_f (show 74 ≤ pc by omega), cond_false, xblt_f (show 75 ≤ pc by omega), cond_false, xbeq_f (show pc ≠ 75 by omega), cond_false]
set_option maxRecDepth 100000 in
theorem xde_208 : xDe 208 := xDe_of (B := 76) xc_208 rfl xob_208 (by decide +kernel)
theorem xob_209 (pc : Nat) (h : 27 ≤ pc) : xc_209 pc = none := by
  unfold xc_209
  rw [xblt_f (show 12 ≤ pc by omega), cond_false, xblt_f (show 20 ≤ pc by omega), cond_false, xblt_f (show 22 ≤ pc by omega), cond_false, xblt_f (show 23 ≤ pc by omega), cond_false, xblt_f (show 26 ≤ pc by omega), cond_false, xbeq_f (show pc ≠ 26 by omega), cond_false]
set_option maxRecDepth 100000 in
theorem xde_209 : xDe 209 := xDe_of (B := 27) xc_209 rfl xob_209 (by decide +kernel)
theorem xob_210 (pc : Nat) (h : 133 ≤ pc) : xc_210 pc = none := by
  unfold xc_210
  rw [xblt_f (show 61 ≤ pc by omega), cond_false, xblt_f (show 100 ≤ pc by omega), cond_false, xblt_f (show 115 ≤ pc by omega), cond_false, xblt_f (show 124 ≤ pc by omega), cond_false, xblt_f (show 128 ≤ pc by omega), cond_false, xblt_f (show 131 ≤ pc by omega), cond_false, xblt_f (show 132 ≤ pc by omega), cond_false, xbeq_f (show pc ≠ 132 by omega), cond_false]
set_option maxRecDepth 100000 in
theorem xde_210 : xDe 210 := xDe_of (B := 133) xc_210 rfl xob_210 (by decide +kernel)
theorem xob_211 (pc : Nat) (h : 29 ≤ pc) : xc_211 pc = none := by
  unfold xc_211
  rw [xblt_f (show 13 ≤ pc by omega), cond_false, xblt_f (show 22 ≤ pc by omega), cond_false, xblt_f (show 24 ≤ pc by omega), cond_false, xblt_f (show 25 ≤ pc by omega), cond_false, xblt_f (show 28 ≤ pc by omega), cond_false, xbeq_f (show pc ≠ 28 by omega), cond_false]
set_option maxRecDepth 100000 in
theorem xde_211 : xDe 211 := xDe_of (B := 29) xc_211 rfl xob_211 (by decide +kernel)
theorem xob_212 (pc : Nat) (h : 75 ≤ pc) : xc_212 pc = none := by
  unfold xc_212
  rw [xblt_f (show 32 ≤ pc by omega), cond_false, xblt_f (show 52 ≤ pc by omega), cond_false, xblt_f (show 63 ≤ pc by omega), cond_false, xblt_f (show 70 ≤ pc by omega), cond_false, xblt_f (show 73 ≤ pc by omega), cond_false, xblt_f (show 74 ≤ pc by omega), cond_false, xbeq_f (show pc ≠ 74 by omega), cond_false]
set_option maxRecDepth 100000 in
theorem xde_212 : xDe 212 := xDe_of (B := 75) xc_212 rfl xob_212 (by decide +kernel)
theorem xob_213 (pc : Nat) (h : 28 ≤ pc) : xc_213 pc = none := by
  unfold xc_213
  rw [xblt_f (show 14 ≤ pc by omega), cond_false, xblt_f (show 22 ≤ pc by omega), cond_false, xblt_f (show 24 ≤ pc by omega), cond_false, xblt_f (show 25 ≤ pc by omega), cond_false, xblt_f (show 27 ≤ pc by omega), cond_false, xbeq_f (show pc ≠ 27 by omega), cond_false]
set_option maxRecDepth 100000 in
theorem xde_213 : xDe 213 := xDe_of (B := 28) xc_213 rfl xob_213 (by decide +kernel)
theorem xob_214 (pc : Nat) (h : 39 ≤ pc) : xc_214 pc = none := by
  unfold xc_214
  rw [xblt_f (show 17 ≤ pc by omega), cond_false, xblt_f (show 28 ≤ pc by omega), cond_false, xblt_f (show 33 ≤ pc by omega), cond_false, xblt_f (show 36 ≤ pc by omega), cond_false, xblt_f (show 38 ≤ pc by omega), cond_false, xbeq_f (show pc ≠ 38 by omega), cond_false]
set_option maxRecDepth 100000 in
theorem xde_214 : xDe 214 := xDe_of (B := 39) xc_214 rfl xob_214 (by decide +kernel)
theorem xob_215 (pc : Nat) (h : 85 ≤ pc) : xc_215 pc = none := by
  unfold xc_215
  rw [xblt_f (show 46 ≤ pc by omega), cond_false, xblt_f (show 66 ≤ pc by omega), cond_false, xblt_f (show 77 ≤ pc by omega), cond_false, xblt_f (show 81 ≤ pc by omega), cond_false, xblt_f (show 83 ≤ pc by omega), cond_false, xblt_f (show 84 ≤ pc by omega), cond_false, xbeq_f (show pc ≠ 84 by omega), cond_false]
set_option maxRecDepth 100000 in
theorem xde_215 : xDe 215 := xDe_of (B := 85) xc_215 rfl xob_215 (by decide +kernel)
theorem xob_216 (pc : Nat) (h : 35 ≤ pc) : xc_216 pc = none := by
  unfold xc_216
  rw [xblt_f (show 16 ≤ pc by omega), cond_false, xblt_f (show 25 ≤ pc by omega), cond_false, xblt_f (show 29 ≤ pc by omega), cond_false, xblt_f (show 32 ≤ pc by omega), cond_false, xblt_f (show 34 ≤ pc by omega), cond_false, xbeq_f (show pc ≠ 34 by omega), cond_false]
set_option maxRecDepth 100000 in
theorem xde_216 : xDe 216 := xDe_of (B := 35) xc_216 rfl xob_216 (by decide +kernel)
theorem xob_217 (pc : Nat) (h : 39 ≤ pc) : xc_217 pc = none := by
  unfold xc_217
  rw [xblt_f (show 16 ≤ pc by omega), cond_false, xblt_f (show 28 ≤ pc by omega), cond_false, xblt_f (show 31 ≤ pc by omega), cond_false, xblt_f (show 37 ≤ pc by omega), cond_false, xblt_f (show 38 ≤ pc by omega), cond_false, xbeq_f (show pc ≠ 38 by omega), cond_false]
set_option maxRecDepth 100000 in
theorem xde_217 : xDe 217 := xDe_of (B := 39) xc_217 rfl xob_217 (by decide +kernel)
theorem xob_218 (pc : Nat) (h : 110 ≤ pc) : xc_218 pc = none := by
  unfold xc_218
  rw [xblt_f (show 49 ≤ pc by omega), cond_false, xblt_f (show 75 ≤ pc by omega), cond_false, xblt_f (show 93 ≤ pc by omega), cond_false, xblt_f (show 103 ≤ pc by omega), cond_false, xblt_f (show 107 ≤ pc by omega), cond_false, xblt_f (show 109 ≤ pc by omega), cond_false, xbeq_f (show pc ≠ 109 by omega), cond_false]
set_option maxRecDepth 100000 in
theorem xde_218 : xDe 218 := xDe_of (B := 110) xc_218 rfl xob_218 (by decide +kernel)
end
