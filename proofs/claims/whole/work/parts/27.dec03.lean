/-! the code tables are the bytes, on (printed by wip/tools/mk26.py) -/
noncomputable section
theorem xob_144 (pc : Nat) (h : 36 ≤ pc) : xc_144 pc = none := by
  unfold xc_144
  rw [xblt_f (show 19 ≤ pc by omega), cond_false, xblt_f (show 24 ≤ pc by omega), cond_false, xblt_f (show 31 ≤ pc by omega), cond_false, xblt_f (show 34 ≤ pc by omega), cond_false, xblt_f (show 35 ≤ pc by omega), cond_false, xbeq_f (show pc ≠ 35 by omega), cond_false]
set_option maxRecDepth 100000 in
theorem xde_144 : xDe 144 := xDe_of (B := 36) xc_144 rfl xob_144 (by decide +kernel)
theorem xob_145 (pc : Nat) (h : 75 ≤ pc) : xc_145 pc = none := by
  unfold xc_145
  rw [xblt_f (show 37 ≤ pc by omega), cond_false, xblt_f (show 57 ≤ pc by omega), cond_false, xblt_f (show 65 ≤ pc by omega), cond_false, xblt_f (show 70 ≤ pc by omega), cond_false, xblt_f (show 73 ≤ pc by omega), cond_false, xblt_f (show 74 ≤ pc by omega), cond_false, xbeq_f (show pc ≠ 74 by omega), cond_false]
set_option maxRecDepth 100000 in
theorem xde_145 : xDe 145 := xDe_of (B := 75) xc_145 rfl xob_145 (by decide +kernel)
theorem xob_146 (pc : Nat) (h : 42 ≤ pc) : xc_146 pc = none := by
  unfold xc_146
  rw [xblt_f (show 18 ≤ pc by omega), cond_false, xblt_f (show 31 ≤ pc by omega), cond_false, xblt_f (show 34 ≤ pc by omega), cond_false, xblt_f (show 40 ≤ pc by omega), cond_false, xblt_f (show 41 ≤ pc by omega), cond_false, xbeq_f (show pc ≠ 41 by omega), cond_false]
set_option maxRecDepth 100000 in
theorem xde_146 : xDe 146 := xDe_of (B := 42) xc_146 rfl xob_146 (by decide +kernel)
theorem xob_147 (pc : Nat) (h : 9 ≤ pc) : xc_147 pc = none := by
  unfold xc_147
  rw [xblt_f (show 4 ≤ pc by omega), cond_false, xblt_f (show 5 ≤ pc by omega), cond_false, xblt_f (show 8 ≤ pc by omega), cond_false, xbeq_f (show pc ≠ 8 by omega), cond_false]
set_option maxRecDepth 100000 in
theorem xde_147 : xDe 147 := xDe_of (B := 9) xc_147 rfl xob_147 (by decide +kernel)
theorem xob_148 (pc : Nat) (h : 27 ≤ pc) : xc_148 pc = none := by
  unfold xc_148
  rw [xblt_f (show 14 ≤ pc by omega), cond_false, xblt_f (show 21 ≤ pc by omega), cond_false, xblt_f (show 23 ≤ pc by omega), cond_false, xblt_f (show 26 ≤ pc by omega), cond_false, xbeq_f (show pc ≠ 26 by omega), cond_false]
set_option maxRecDepth 100000 in
theorem xde_148 : xDe 148 := xDe_of (B := 27) xc_148 rfl xob_148 (by decide +kernel)
theorem xob_149 (pc : Nat) (h : 120 ≤ pc) : xc_149 pc = none := by
  unfold xc_149
  rw [xblt_f (show 55 ≤ pc by omega), cond_false, xblt_f (show 86 ≤ pc by omega), cond_false, xblt_f (show 100 ≤ pc by omega), cond_false, xblt_f (show 109 ≤ pc by omega), cond_false, xblt_f (show 114 ≤ pc by omega), cond_false, xblt_f (show 117 ≤ pc by omega), cond_false, xblt_f (show 119 ≤ pc by omega), cond_false, xbeq_f (show pc ≠ 119 by omega), cond_false]
set_option maxRecDepth 100000 in
theorem xde_149 : xDe 149 := xDe_of (B := 120) xc_149 rfl xob_149 (by decide +kernel)
theorem xob_150 (pc : Nat) (h : 50 ≤ pc) : xc_150 pc = none := by
  unfold xc_150
  rw [xblt_f (show 24 ≤ pc by omega), cond_false, xblt_f (show 36 ≤ pc by omega), cond_false, xblt_f (show 42 ≤ pc by omega), cond_false, xblt_f (show 46 ≤ pc by omega), cond_false, xblt_f (show 49 ≤ pc by omega), cond_false, xbeq_f (show pc ≠ 49 by omega), cond_false]
set_option maxRecDepth 100000 in
theorem xde_150 : xDe 150 := xDe_of (B := 50) xc_150 rfl xob_150 (by decide +kernel)
theorem xob_151 (pc : Nat) (h : 47 ≤ pc) : xc_151 pc = none := by
  unfold xc_151
  rw [xblt_f (show 25 ≤ pc by omega), cond_false, xblt_f (show 37 ≤ pc by omega), cond_false, xblt_f (show 43 ≤ pc by omega), cond_false, xblt_f (show 45 ≤ pc by omega), cond_false, xblt_f (show 46 ≤ pc by omega), cond_false, xbeq_f (show pc ≠ 46 by omega), cond_false]
set_option maxRecDepth 100000 in
theorem xde_151 : xDe 151 := xDe_of (B := 47) xc_151 rfl xob_151 (by decide +kernel)
theorem xob_152 (pc : Nat) (h : 77 ≤ pc) : xc_152 pc = none := by
  unfold xc_152
  rw [xblt_f (show 35 ≤ pc by omega), cond_false, xblt_f (show 58 ≤ pc by omega), cond_false, xblt_f (show 64 ≤ pc by omega), cond_false, xblt_f (show 69 ≤ pc by omega), cond_false, xblt_f (show 73 ≤ pc by omega), cond_false, xblt_f (show 76 ≤ pc by omega), cond_false, xbeq_f (show pc ≠ 76 by omega), cond_false]
set_option maxRecDepth 100000 in
theorem xde_152 : xDe 152 := xDe_of (B := 77) xc_152 rfl xob_152 (by decide +kernel)
theorem xob_153 (pc : Nat) (h : 17 ≤ pc) : xc_153 pc = none := by
  unfold xc_153
  rw [xblt_f (show 9 ≤ pc by omega), cond_false, xblt_f (show 14 ≤ pc by omega), cond_false, xblt_f (show 15 ≤ pc by omega), cond_false, xblt_f (show 16 ≤ pc by omega), cond_false, xbeq_f (show pc ≠ 16 by omega), cond_false]
set_option maxRecDepth 100000 in
theorem xde_153 : xDe 153 := xDe_of (B := 17) xc_153 rfl xob_153 (by decide +kernel)
theorem xob_154 (pc : Nat) (h : 9 ≤ pc) : xc_154 pc = none := by
  unfold xc_154
  rw [xblt_f (show 4 ≤ pc by omega), cond_false, xblt_f (show 5 ≤ pc by omega), cond_false, xblt_f (show 8 ≤ pc by omega), cond_false, xbeq_f (show pc ≠ 8 by omega), cond_false]
set_option maxRecDepth 100000 in
theorem xde_154 : xDe 154 := xDe_of (B := 9) xc_154 rfl xob_154 (by decide +kernel)
theorem xob_155 (pc : Nat) (h : 28 ≤ pc) : xc_155 pc = none := by
  unfold xc_155
  rw [xblt_f (show 14 ≤ pc by omega), cond_false, xblt_f (show 21 ≤ pc by omega), cond_false, xblt_f (show 25 ≤ pc by omega), cond_false, xblt_f (show 26 ≤ pc by omega), cond_false, xblt_f (show 27 ≤ pc by omega), cond_false, xbeq_f (show pc ≠ 27 by omega), cond_false]
set_option maxRecDepth 100000 in
theorem xde_155 : xDe 155 := xDe_of (B := 28) xc_155 rfl xob_155 (by decide +kernel)
theorem xob_156 (pc : Nat) (h : 89 ≤ pc) : xc_156 pc = none := by
  unfold xc_156
  rw [xblt_f (show 44 ≤ pc by omega), cond_false, xblt_f (show 65 ≤ pc by omega), cond_false, xblt_f (show 74 ≤ pc by omega), cond_false, xblt_f (show 83 ≤ pc by omega), cond_false, xblt_f (show 87 ≤ pc by omega), cond_false, xblt_f (show 88 ≤ pc by omega), cond_false, xbeq_f (show pc ≠ 88 by omega), cond_false]
set_option maxRecDepth 100000 in
theorem xde_156 : xDe 156 := xDe_of (B := 89) xc_156 rfl xob_156 (by decide +kernel)
theorem xob_157 (pc : Nat) (h : 109 ≤ pc) : xc_157 pc = none := by
  unfold xc_157
  rw [xblt_f (show 54 ≤ pc by omega), cond_false, xblt_f (show 79 ≤ pc by omega), cond_false, xblt_f (show 98 ≤ pc by omega), cond_false, xblt_f (show 103 ≤ pc by omega), cond_false, xblt_f (show 105 ≤ pc by omega), cond_false, xblt_f (show 108 ≤ pc by omega), cond_false, xbeq_f (show pc ≠ 108 by omega), cond_false]
set_option maxRecDepth 100000 in
theorem xde_157 : xDe 157 := xDe_of (B := 109) xc_157 rfl xob_157 (by decide +kernel)
theorem xob_158 (pc : Nat) (h : 28 ≤ pc) : xc_158 pc = none := by
  unfold xc_158
  rw [xblt_f (show 14 ≤ pc by omega), cond_false, xblt_f (show 21 ≤ pc by omega), cond_false, xblt_f (show 25 ≤ pc by omega), cond_false, xblt_f (show 26 ≤ pc by omega), cond_false, xblt_f (show 27 ≤ pc by omega), cond_false, xbeq_f (show pc ≠ 27 by omega), cond_false]
set_option maxRecDepth 100000 in
theorem xde_158 : xDe 158 := xDe_of (B := 28) xc_158 rfl xob_158 (by decide +kernel)
theorem xob_159 (pc : Nat) (h : 53 ≤ pc) : xc_159 pc = none := by
  unfold xc_159
  rw [xblt_f (show 25 ≤ pc by omega), cond_false, xblt_f (show 39 ≤ pc by omega), cond_false, xblt_f (show 45 ≤ pc by omega), cond_false, xblt_f (show 51 ≤ pc by omega), cond_false, xblt_f (show 52 ≤ pc by omega), cond_false, xbeq_f (show pc ≠ 52 by omega), cond_false]
set_option maxRecDepth 100000 in
theorem xde_159 : xDe 159 := xDe_of (B := 53) xc_159 rfl xob_159 (by decide +kernel)
theorem xob_160 (pc : Nat) (h : 93 ≤ pc) : xc_160 pc = none := by
  unfold xc_160
  rw [xblt_f (show 44 ≤ pc by omega), cond_false, xblt_f (show 65 ≤ pc by omega), cond_false, xblt_f (show 78 ≤ pc by omega), cond_false, xblt_f (show 85 ≤ pc by omega), cond_false, xblt_f (show 91 ≤ pc by omega), cond_false, xblt_f (show 92 ≤ pc by omega), cond_false, xbeq_f (show pc ≠ 92 by omega), cond_false]
set_option maxRecDepth 100000 in
theorem xde_160 : xDe 160 := xDe_of (B := 93) xc_160 rfl xob_160 (by decide +kernel)
theorem xob_161 (pc : Nat) (h : 56 ≤ pc) : xc_161 pc = none := by
  unfold xc_161
  rw [xblt_f (show 29 ≤ pc by omega), cond_false, xblt_f (show 43 ≤ pc by omega), cond_false, xblt_f (show 49 ≤ pc by omega), cond_false, xblt_f (show 51 ≤ pc by omega), cond_false, xblt_f (show 52 ≤ pc by omega), cond_false, xblt_f (show 55 ≤ pc by omega), cond_false, xbeq_f (show pc ≠ 55 by omega), cond_false]
set_option maxRecDepth 100000 in
theorem xde_161 : xDe 161 := xDe_of (B := 56) xc_161 rfl xob_161 (by decide +kernel)
theorem xob_162 (pc : Nat) (h : 69 ≤ pc) : xc_162 pc = none := by
  unfold xc_162
  rw [xblt_f (show 34 ≤ pc by omega), cond_false, xblt_f (show 50 ≤ pc by omega), cond_false, xblt_f (show 59 ≤ pc by omega), cond_false, xblt_f (show 64 ≤ pc by omega), cond_false, xblt_f (show 67 ≤ pc by omega), cond_false, xblt_f (show 68 ≤ pc by omega), cond_false, xbeq_f (show pc ≠ 68 by omega), cond_false]
set_option maxRecDepth 100000 in
theorem xde_162 : xDe 162 := xDe_of (B := 69) xc_162 rfl xob_162 (by decide +kernel)
theorem xob_163 (pc : Nat) (h : 154 ≤ pc) : xc_163 pc = none := by
  unfold xc_163
  rw [xblt_f (show 75 ≤ pc by omega), cond_false, xblt_f (show 109 ≤ pc by omega), cond_false, xblt_f (show 130 ≤ pc by omega), cond_false, xblt_f (show 138 ≤ pc by omega), cond_false, xblt_f (show 147 ≤ pc by omega), cond_false, xblt_f (show 150 ≤ pc by omega), cond_false, xblt_f (show 153 ≤ pc by omega), cond_false, xbeq_f (show pc ≠ 153 by omega), cond_false]
set_option maxRecDepth 100000 in
theorem xde_163 : xDe 163 := xDe_of (B := 154) xc_163 rfl xob_163 (by decide +kernel)
theorem xob_164 (pc : Nat) (h : 52 ≤ pc) : xc_164 pc = none := by
  unfold xc_164
  rw [xblt_f (show 24 ≤ pc by omega), cond_false, xblt_f (show 36 ≤ pc by omega), cond_false, xblt_f (show 44 ≤ pc by omega), cond_false, xblt_f (show 50 ≤ pc by omega), cond_false, xblt_f (show 51 ≤ pc by omega), cond_false, xbeq_f (show pc ≠ 51 by omega), cond_false]
set_option maxRecDepth 100000 in
theorem xde_164 : xDe 164 := xDe_of (B := 52) xc_164 rfl xob_164 (by decide +kernel)
theorem xob_165 (pc : Nat) (h : 19 ≤ pc) : xc_165 pc = none := by
  unfold xc_165
  rw [xblt_f (show 9 ≤ pc by omega), cond_false, xblt_f (show 14 ≤ pc by omega), cond_false, xblt_f (show 15 ≤ pc by omega), cond_false, xblt_f (show 18 ≤ pc by omega), cond_false, xbeq_f (show pc ≠ 18 by omega), cond_false]
set_option maxRecDepth 100000 in
theorem xde_165 : xDe 165 := xDe_of (B := 19) xc_165 rfl xob_165 (by decide +kernel)
theorem xob_166 (pc : Nat) (h : 9 ≤ pc) : xc_166 pc = none := by
  unfold xc_166
  rw [xblt_f (show 4 ≤ pc by omega), cond_false, xblt_f (show 5 ≤ pc by omega), cond_false, xblt_f (show 8 ≤ pc by omega), cond_false, xbeq_f (show pc ≠ 8 by omega), cond_false]
set_option maxRecDepth 100000 in
theorem xde_166 : xDe 166 := xDe_of (B := 9) xc_166 rfl xob_166 (by decide +kernel)
theorem xob_167 (pc : Nat) (h : 180 ≤ pc) : xc_167 pc = none := by
  unfold xc_167
  rw [xblt_f (show 80 ≤ pc by omega), cond_false, xblt_f (show 126 ≤ pc by omega), cond_false, xblt_f (show 153 ≤ pc by omega), cond_false, xblt_f (show 164 ≤ pc by omega), cond_false, xblt_f (show 170 ≤ pc by omega), cond_false, xblt_f (show 176 ≤ pc by omega), cond_false, xblt_f (show 179 ≤ pc by omega), cond_false, xbeq_f (show pc ≠ 179 by omega), cond_false]
set_option maxRecDepth 100000 in
theorem xde_167 : xDe 167 := xDe_of (B := 180) xc_167 rfl xob_167 (by decide +kernel)
theorem xob_168 (pc : Nat) (h : 30 ≤ pc) : xc_168 pc = none := by
  unfold xc_168
  rw [xblt_f (show 16 ≤ pc by omega), cond_false, xblt_f (show 23 ≤ pc by omega), cond_false, xblt_f (show 25 ≤ pc by omega), cond_false, xblt_f (show 26 ≤ pc by omega), cond_false, xblt_f (show 29 ≤ pc by omega), cond_false, xbeq_f (show pc ≠ 29 by omega), cond_false]
set_option maxRecDepth 100000 in
theorem xde_168 : xDe 168 := xDe_of (B := 30) xc_168 rfl xob_168 (by decide +kernel)
theorem xob_169 (pc : Nat) (h : 156 ≤ pc) : xc_169 pc = none := by
  unfold xc_169
  rw [xblt_f (show 75 ≤ pc by omega), cond_false, xblt_f (show 115 ≤ pc by omega), cond_false, xblt_f (show 138 ≤ pc by omega), cond_false, xblt_f (show 146 ≤ pc by omega), cond_false, xblt_f (show 151 ≤ pc by omega), cond_false, xblt_f (show 154 ≤ pc by omega), cond_false, xblt_f (show 155 ≤ pc by omega), cond_false, xbeq_f (show pc ≠ 155 by omega), cond_false]
set_option maxRecDepth 100000 in
theorem xde_169 : xDe 169 := xDe_of (B := 156) xc_169 rfl xob_169 (by decide +kernel)
theorem xob_170 (pc : Nat) (h : 65 ≤ pc) : xc_170 pc = none := by
  unfold xc_170
  rw [xblt_f (show 34 ≤ pc by omega), cond_false, xblt_f (show 47 ≤ pc by omega), cond_false, xblt_f (show 56 ≤ pc by omega), cond_false, xblt_f (show 60 ≤ pc by omega), cond_false, xblt_f (show 63 ≤ pc by omega), cond_false, xblt_f (show 64 ≤ pc by omega), cond_false, xbeq_f (show pc ≠ 64 by omega), cond_false]
set_option maxRecDepth 100000 in
theorem xde_170 : xDe 170 := xDe_of (B := 65) xc_170 rfl xob_170 (by decide +kernel)
theorem xob_171 (pc : Nat) (h : 71 ≤ pc) : xc_171 pc = none := by
  unfold xc_171
  rw [xblt_f (show 34 ≤ pc by omega), cond_false, xblt_f (show 51 ≤ pc by omega), cond_false, xblt_f (show 61 ≤ pc by omega), cond_false, xblt_f (show 66 ≤ pc by omega), cond_false, xblt_f (show 69 ≤ pc by omega), cond_false, xblt_f (show 70 ≤ pc by omega), cond_false, xbeq_f (show pc ≠ 70 by omega), cond_false]
set_option maxRecDepth 100000 in
theorem xde_171 : xDe 171 := xDe_of (B := 71) xc_171 rfl xob_171 (by decide +kernel)
theorem xob_172 (pc : Nat) (h : 47 ≤ pc) : xc_172 pc = none := by
  unfold xc_172
  rw [xblt_f (show 23 ≤ pc by omega), cond_false, xblt_f (show 33 ≤ pc by omega), cond_false, xblt_f (show 39 ≤ pc by omega), cond_false, xblt_f (show 45 ≤ pc by omega), cond_false, xblt_f (show 46 ≤ pc by omega), cond_false, xbeq_f (show pc ≠ 46 by omega), cond_false]
set_option maxRecDepth 100000 in
theorem xde_172 : xDe 172 := xDe_of (B := 47) xc_172 rfl xob_172 (by decide +kernel)
theorem xob_173 (pc : Nat) (h : 73 ≤ pc) : xc_173 pc = none := by
  unfold xc_173
  rw [xblt_f (show 36 ≤ pc by omega), cond_false, xblt_f (show 53 ≤ pc by omega), cond_false, xblt_f (show 63 ≤ pc by omega), cond_false, xblt_f (show 68 ≤ pc by omega), cond_false, xblt_f (show 71 ≤ pc by omega), cond_false, xblt_f (show 72 ≤ pc by omega), cond_false, xbeq_f (show pc ≠ 72 by omega), cond_false]
set_option maxRecDepth 100000 in
theorem xde_173 : xDe 173 := xDe_of (B := 73) xc_173 rfl xob_173 (by decide +kernel)
theorem xob_174 (pc : Nat) (h : 68 ≤ pc) : xc_174 pc = none := by
  unfold xc_174
  rw [xblt_f (show 34 ≤ pc by omega), cond_false, xblt_f (show 51 ≤ pc by omega), cond_false, xblt_f (show 58 ≤ pc by omega), cond_false, xblt_f (show 63 ≤ pc by omega), cond_false, xblt_f (show 66 ≤ pc by omega), cond_false, xblt_f (show 67 ≤ pc by omega), cond_false, xbeq_f (show pc ≠ 67 by omega), cond_false]
set_option maxRecDepth 100000 in
theorem xde_174 : xDe 174 := xDe_of (B := 68) xc_174 rfl xob_174 (by decide +kernel)
theorem xob_175 (pc : Nat) (h : 91 ≤ pc) : xc_175 pc = none := by
  unfold xc_175
  rw [xblt_f (show 45 ≤ pc by omega), cond_false, xblt_f (show 67 ≤ pc by omega), cond_false, xblt_f (show 80 ≤ pc by omega), cond_false, xblt_f (show 83 ≤ pc by omega), cond_false, xblt_f (show 89 ≤ pc by omega), cond_false, xblt_f (show 90 ≤ pc by omega), cond_false, xbeq_f (show pc ≠ 90 by omega), cond_false]
set_option maxRecDepth 100000 in
theorem xde_175 : xDe 175 := xDe_of (B := 91) xc_175 rfl xob_175 (by decide +kernel)
theorem xob_176 (pc : Nat) (h : 49 ≤ pc) : xc_176 pc = none := by
  unfold xc_176
  rw [xblt_f (show 23 ≤ pc by omega), cond_false, xblt_f (show 33 ≤ pc by omega), cond_false, xblt_f (show 41 ≤ pc by omega), cond_false, xblt_f (show 47 ≤ pc by omega), cond_false, xblt_f (show 48 ≤ pc by omega), cond_false, xbeq_f (show pc ≠ 48 by omega), cond_false]
set_option maxRecDepth 100000 in
theorem xde_176 : xDe 176 := xDe_of (B := 49) xc_176 rfl xob_176 (by decide +kernel)
theorem xob_177 (pc : Nat) (h : 54 ≤ pc) : xc_177 pc = none := by
  unfold xc_177
  rw [xblt_f (show 27 ≤ pc by omega), cond_false, xblt_f (show 37 ≤ pc by omega), cond_false, xblt_f (show 45 ≤ pc by omega), cond_false, xblt_f (show 49 ≤ pc by omega), cond_false, xblt_f (show 52 ≤ pc by omega), cond_false, xblt_f (show 53 ≤ pc by omega), cond_false, xbeq_f (show pc ≠ 53 by omega), cond_false]
set_option maxRecDepth 100000 in
theorem xde_177 : xDe 177 := xDe_of (B := 54) xc_177 rfl xob_177 (by decide +kernel)
theorem xob_178 (pc : Nat) (h : 53 ≤ pc) : xc_178 pc = none := by
  unfold xc_178
  rw [xblt_f (show 25 ≤ pc by omega), cond_false, xblt_f (show 37 ≤ pc by omega), cond_false, xblt_f (show 45 ≤ pc by omega), cond_false, xblt_f (show 51 ≤ pc by omega), cond_false, xblt_f (show 52 ≤ pc by omega), cond_false, xbeq_f (show pc ≠ 52 by omega), cond_false]
set_option maxRecDepth 100000 in
theorem xde_178 : xDe 178 := xDe_of (B := 53) xc_178 rfl xob_178 (by decide +kernel)
theorem xob_179 (pc : Nat) (h : 73 ≤ pc) : xc_179 pc = none := by
  unfold xc_179
  rw [xblt_f (show 39 ≤ pc by omega), cond_false, xblt_f (show 54 ≤ pc by omega), cond_false, xblt_f (show 63 ≤ pc by omega), cond_false, xblt_f (show 68 ≤ pc by omega), cond_false, xblt_f (show 71 ≤ pc by omega), cond_false, xblt_f (show 72 ≤ pc by omega), cond_false, xbeq_f (show pc ≠ 72 by omega), cond_false]
set_option maxRecDepth 100000 in
theorem xde_179 : xDe 179 := xDe_of (B := 73) xc_179 rfl xob_179 (by decide +kernel)
theorem xob_180 (pc : Nat) (h : 70 ≤ pc) : xc_180 pc = none := by
  unfold xc_180
  rw [xblt_f (show 34 ≤ pc by omega), cond_false, xblt_f (show 50 ≤ pc by omega), cond_false, xblt_f (show 58 ≤ pc by omega), cond_false, xblt_f (show 65 ≤ pc by omega), cond_false, xblt_f (show 68 ≤ pc by omega), cond_false, xblt_f (show 69 ≤ pc by omega), cond_false, xbeq_f (show pc ≠ 69 by omega), cond_false]
set_option maxRecDepth 100000 in
theorem xde_180 : xDe 180 := xDe_of (B := 70) xc_180 rfl xob_180 (by decide +kernel)
theorem xob_181 (pc : Nat) (h : 29 ≤ pc) : xc_181 pc = none := by
  unfold xc_181
  rw [xblt_f (show 11 ≤ pc by omega), cond_false, xblt_f (show 19 ≤ pc by omega), cond_false, xblt_f (show 24 ≤ pc by omega), cond_false, xblt_f (show 27 ≤ pc by omega), cond_false, xblt_f (show 28 ≤ pc by omega), cond_false, xbeq_f (show pc ≠ 28 by omega), cond_false]
set_option maxRecDepth 100000 in
theorem xde_181 : xDe 181 := xDe_of (B := 29) xc_181 rfl xob_181 (by decide +kernel)
theorem xob_182 (pc : Nat) (h : 49 ≤ pc) : xc_182 pc = none := by
  unfold xc_182
  rw [xblt_f (show 25 ≤ pc by omega), cond_false, xblt_f (show 36 ≤ pc by omega), cond_false, xblt_f (show 43 ≤ pc by omega), cond_false, xblt_f (show 47 ≤ pc by omega), cond_false, xblt_f (show 48 ≤ pc by omega), cond_false, xbeq_f (show pc ≠ 48 by omega), cond_false]
set_option maxRecDepth 100000 in
theorem xde_182 : xDe 182 := xDe_of (B := 49) xc_182 rfl xob_182 (by decide +kernel)
theorem xob_183 (pc : Nat) (h : 72 ≤ pc) : xc_183 pc = none := by
  unfold xc_183
  rw [xblt_f (show 32 ≤ pc by omega), cond_false, xblt_f (show 51 ≤ pc by omega), cond_false, xblt_f (show 61 ≤ pc by omega), cond_false, xblt_f (show 67 ≤ pc by omega), cond_false, xblt_f (show 70 ≤ pc by omega), cond_false, xblt_f (show 71 ≤ pc by omega), cond_false, xbeq_f (show pc ≠ 71 by omega), cond_false]
set_option maxRecDepth 100000 in
theorem xde_183 : xDe 183 := xDe_of (B := 72) xc_183 rfl xob_183 (by decide +kernel)
end
