/-! the code tables are the bytes, on (printed by wip/tools/mk26.py) -/
noncomputable section
theorem xob_98 (pc : Nat) (h : 13 ≤ pc) : xc_98 pc = none := by
  unfold xc_98
  rw [xblt_f (show 7 ≤ pc by omega), cond_false, xblt_f (show 11 ≤ pc by omega), cond_false, xblt_f (show 12 ≤ pc by omega), cond_false, xbeq_f (show pc ≠ 12 by omega), cond_false]
set_option maxRecDepth 100000 in
theorem xde_98 : xDe 98 := xDe_of (B := 13) xc_98 rfl xob_98 (by decide +kernel)
theorem xob_99 (pc : Nat) (h : 22 ≤ pc) : xc_99 pc = none := by
  unfold xc_99
  rw [xblt_f (show 10 ≤ pc by omega), cond_false, xblt_f (show 15 ≤ pc by omega), cond_false, xblt_f (show 18 ≤ pc by omega), cond_false, xblt_f (show 21 ≤ pc by omega), cond_false, xbeq_f (show pc ≠ 21 by omega), cond_false]
set_option maxRecDepth 100000 in
theorem xde_99 : xDe 99 := xDe_of (B := 22) xc_99 rfl xob_99 (by decide +kernel)
theorem xob_100 (pc : Nat) (h : 30 ≤ pc) : xc_100 pc = none := by
  unfold xc_100
  rw [xblt_f (show 16 ≤ pc by omega), cond_false, xblt_f (show 24 ≤ pc by omega), cond_false, xblt_f (show 28 ≤ pc by omega), cond_false, xblt_f (show 29 ≤ pc by omega), cond_false, xbeq_f (show pc ≠ 29 by omega), cond_false]
set_option maxRecDepth 100000 in
theorem xde_100 : xDe 100 := xDe_of (B := 30) xc_100 rfl xob_100 (by decide +kernel)
theorem xob_101 (pc : Nat) (h : 16 ≤ pc) : xc_101 pc = none := by
  unfold xc_101
  rw [xblt_f (show 9 ≤ pc by omega), cond_false, xblt_f (show 11 ≤ pc by omega), cond_false, xblt_f (show 14 ≤ pc by omega), cond_false, xblt_f (show 15 ≤ pc by omega), cond_false, xbeq_f (show pc ≠ 15 by omega), cond_false]
set_option maxRecDepth 100000 in
theorem xde_101 : xDe 101 := xDe_of (B := 16) xc_101 rfl xob_101 (by decide +kernel)
theorem xob_102 (pc : Nat) (h : 14 ≤ pc) : xc_102 pc = none := by
  unfold xc_102
  rw [xblt_f (show 8 ≤ pc by omega), cond_false, xblt_f (show 10 ≤ pc by omega), cond_false, xblt_f (show 13 ≤ pc by omega), cond_false, xbeq_f (show pc ≠ 13 by omega), cond_false]
set_option maxRecDepth 100000 in
theorem xde_102 : xDe 102 := xDe_of (B := 14) xc_102 rfl xob_102 (by decide +kernel)
theorem xob_103 (pc : Nat) (h : 57 ≤ pc) : xc_103 pc = none := by
  unfold xc_103
  rw [xblt_f (show 29 ≤ pc by omega), cond_false, xblt_f (show 44 ≤ pc by omega), cond_false, xblt_f (show 50 ≤ pc by omega), cond_false, xblt_f (show 52 ≤ pc by omega), cond_false, xblt_f (show 55 ≤ pc by omega), cond_false, xblt_f (show 56 ≤ pc by omega), cond_false, xbeq_f (show pc ≠ 56 by omega), cond_false]
set_option maxRecDepth 100000 in
theorem xde_103 : xDe 103 := xDe_of (B := 57) xc_103 rfl xob_103 (by decide +kernel)
theorem xob_104 (pc : Nat) (h : 13 ≤ pc) : xc_104 pc = none := by
  unfold xc_104
  rw [xblt_f (show 6 ≤ pc by omega), cond_false, xblt_f (show 9 ≤ pc by omega), cond_false, xblt_f (show 12 ≤ pc by omega), cond_false, xbeq_f (show pc ≠ 12 by omega), cond_false]
set_option maxRecDepth 100000 in
theorem xde_104 : xDe 104 := xDe_of (B := 13) xc_104 rfl xob_104 (by decide +kernel)
theorem xob_105 (pc : Nat) (h : 25 ≤ pc) : xc_105 pc = none := by
  unfold xc_105
  rw [xblt_f (show 10 ≤ pc by omega), cond_false, xblt_f (show 17 ≤ pc by omega), cond_false, xblt_f (show 21 ≤ pc by omega), cond_false, xblt_f (show 24 ≤ pc by omega), cond_false, xbeq_f (show pc ≠ 24 by omega), cond_false]
set_option maxRecDepth 100000 in
theorem xde_105 : xDe 105 := xDe_of (B := 25) xc_105 rfl xob_105 (by decide +kernel)
theorem xob_106 (pc : Nat) (h : 20 ≤ pc) : xc_106 pc = none := by
  unfold xc_106
  rw [xblt_f (show 10 ≤ pc by omega), cond_false, xblt_f (show 15 ≤ pc by omega), cond_false, xblt_f (show 16 ≤ pc by omega), cond_false, xblt_f (show 19 ≤ pc by omega), cond_false, xbeq_f (show pc ≠ 19 by omega), cond_false]
set_option maxRecDepth 100000 in
theorem xde_106 : xDe 106 := xDe_of (B := 20) xc_106 rfl xob_106 (by decide +kernel)
theorem xob_107 (pc : Nat) (h : 33 ≤ pc) : xc_107 pc = none := by
  unfold xc_107
  rw [xblt_f (show 14 ≤ pc by omega), cond_false, xblt_f (show 22 ≤ pc by omega), cond_false, xblt_f (show 26 ≤ pc by omega), cond_false, xblt_f (show 29 ≤ pc by omega), cond_false, xblt_f (show 32 ≤ pc by omega), cond_false, xbeq_f (show pc ≠ 32 by omega), cond_false]
set_option maxRecDepth 100000 in
theorem xde_107 : xDe 107 := xDe_of (B := 33) xc_107 rfl xob_107 (by decide +kernel)
theorem xob_108 (pc : Nat) (h : 30 ≤ pc) : xc_108 pc = none := by
  unfold xc_108
  rw [xblt_f (show 16 ≤ pc by omega), cond_false, xblt_f (show 22 ≤ pc by omega), cond_false, xblt_f (show 28 ≤ pc by omega), cond_false, xblt_f (show 29 ≤ pc by omega), cond_false, xbeq_f (show pc ≠ 29 by omega), cond_false]
set_option maxRecDepth 100000 in
theorem xde_108 : xDe 108 := xDe_of (B := 30) xc_108 rfl xob_108 (by decide +kernel)
theorem xob_109 (pc : Nat) (h : 10 ≤ pc) : xc_109 pc = none := by
  unfold xc_109
  rw [xblt_f (show 6 ≤ pc by omega), cond_false, xblt_f (show 8 ≤ pc by omega), cond_false, xblt_f (show 9 ≤ pc by omega), cond_false, xbeq_f (show pc ≠ 9 by omega), cond_false]
set_option maxRecDepth 100000 in
theorem xde_109 : xDe 109 := xDe_of (B := 10) xc_109 rfl xob_109 (by decide +kernel)
theorem xob_110 (pc : Nat) (h : 115 ≤ pc) : xc_110 pc = none := by
  unfold xc_110
  rw [xblt_f (show 60 ≤ pc by omega), cond_false, xblt_f (show 87 ≤ pc by omega), cond_false, xblt_f (show 102 ≤ pc by omega), cond_false, xblt_f (show 109 ≤ pc by omega), cond_false, xblt_f (show 113 ≤ pc by omega), cond_false, xblt_f (show 114 ≤ pc by omega), cond_false, xbeq_f (show pc ≠ 114 by omega), cond_false]
set_option maxRecDepth 100000 in
theorem xde_110 : xDe 110 := xDe_of (B := 115) xc_110 rfl xob_110 (by decide +kernel)
theorem xob_111 (pc : Nat) (h : 212 ≤ pc) : xc_111 pc = none := by
  unfold xc_111
  rw [xblt_f (show 112 ≤ pc by omega), cond_false, xblt_f (show 163 ≤ pc by omega), cond_false, xblt_f (show 185 ≤ pc by omega), cond_false, xblt_f (show 201 ≤ pc by omega), cond_false, xblt_f (show 208 ≤ pc by omega), cond_false, xblt_f (show 210 ≤ pc by omega), cond_false, xblt_f (show 211 ≤ pc by omega), cond_false, xbeq_f (show pc ≠ 211 by omega), cond_false]
set_option maxRecDepth 100000 in
theorem xde_111 : xDe 111 := xDe_of (B := 212) xc_111 rfl xob_111 (by decide +kernel)
theorem xob_112 (pc : Nat) (h : 13 ≤ pc) : xc_112 pc = none := by
  unfold xc_112
  rw [xblt_f (show 4 ≤ pc by omega), cond_false, xblt_f (show 8 ≤ pc by omega), cond_false, xblt_f (show 9 ≤ pc by omega), cond_false, xblt_f (show 12 ≤ pc by omega), cond_false, xbeq_f (show pc ≠ 12 by omega), cond_false]
set_option maxRecDepth 100000 in
theorem xde_112 : xDe 112 := xDe_of (B := 13) xc_112 rfl xob_112 (by decide +kernel)
theorem xob_113 (pc : Nat) (h : 73 ≤ pc) : xc_113 pc = none := by
  unfold xc_113
  rw [xblt_f (show 34 ≤ pc by omega), cond_false, xblt_f (show 50 ≤ pc by omega), cond_false, xblt_f (show 61 ≤ pc by omega), cond_false, xblt_f (show 67 ≤ pc by omega), cond_false, xblt_f (show 70 ≤ pc by omega), cond_false, xblt_f (show 72 ≤ pc by omega), cond_false, xbeq_f (show pc ≠ 72 by omega), cond_false]
set_option maxRecDepth 100000 in
theorem xde_113 : xDe 113 := xDe_of (B := 73) xc_113 rfl xob_113 (by decide +kernel)
theorem xob_114 (pc : Nat) (h : 88 ≤ pc) : xc_114 pc = none := by
  unfold xc_114
  rw [xblt_f (show 47 ≤ pc by omega), cond_false, xblt_f (show 68 ≤ pc by omega), cond_false, xblt_f (show 81 ≤ pc by omega), cond_false, xblt_f (show 84 ≤ pc by omega), cond_false, xblt_f (show 86 ≤ pc by omega), cond_false, xblt_f (show 87 ≤ pc by omega), cond_false, xbeq_f (show pc ≠ 87 by omega), cond_false]
set_option maxRecDepth 100000 in
theorem xde_114 : xDe 114 := xDe_of (B := 88) xc_114 rfl xob_114 (by decide +kernel)
theorem xob_115 (pc : Nat) (h : 86 ≤ pc) : xc_115 pc = none := by
  unfold xc_115
  rw [xblt_f (show 44 ≤ pc by omega), cond_false, xblt_f (show 64 ≤ pc by omega), cond_false, xblt_f (show 75 ≤ pc by omega), cond_false, xblt_f (show 82 ≤ pc by omega), cond_false, xblt_f (show 84 ≤ pc by omega), cond_false, xblt_f (show 85 ≤ pc by omega), cond_false, xbeq_f (show pc ≠ 85 by omega), cond_false]
set_option maxRecDepth 100000 in
theorem xde_115 : xDe 115 := xDe_of (B := 86) xc_115 rfl xob_115 (by decide +kernel)
theorem xob_116 (pc : Nat) (h : 168 ≤ pc) : xc_116 pc = none := by
  unfold xc_116
  rw [xblt_f (show 94 ≤ pc by omega), cond_false, xblt_f (show 132 ≤ pc by omega), cond_false, xblt_f (show 150 ≤ pc by omega), cond_false, xblt_f (show 160 ≤ pc by omega), cond_false, xblt_f (show 164 ≤ pc by omega), cond_false, xblt_f (show 166 ≤ pc by omega), cond_false, xblt_f (show 167 ≤ pc by omega), cond_false, xbeq_f (show pc ≠ 167 by omega), cond_false]
set_option maxRecDepth 100000 in
theorem xde_116 : xDe 116 := xDe_of (B := 168) xc_116 rfl xob_116 (by decide +kernel)
theorem xob_117 (pc : Nat) (h : 192 ≤ pc) : xc_117 pc = none := by
  unfold xc_117
  rw [xblt_f (show 95 ≤ pc by omega), cond_false, xblt_f (show 149 ≤ pc by omega), cond_false, xblt_f (show 170 ≤ pc by omega), cond_false, xblt_f (show 183 ≤ pc by omega), cond_false, xblt_f (show 188 ≤ pc by omega), cond_false, xblt_f (show 190 ≤ pc by omega), cond_false, xblt_f (show 191 ≤ pc by omega), cond_false, xbeq_f (show pc ≠ 191 by omega), cond_false]
set_option maxRecDepth 100000 in
theorem xde_117 : xDe 117 := xDe_of (B := 192) xc_117 rfl xob_117 (by decide +kernel)
theorem xob_118 (pc : Nat) (h : 114 ≤ pc) : xc_118 pc = none := by
  unfold xc_118
  rw [xblt_f (show 55 ≤ pc by omega), cond_false, xblt_f (show 83 ≤ pc by omega), cond_false, xblt_f (show 98 ≤ pc by omega), cond_false, xblt_f (show 105 ≤ pc by omega), cond_false, xblt_f (show 107 ≤ pc by omega), cond_false, xblt_f (show 110 ≤ pc by omega), cond_false, xblt_f (show 113 ≤ pc by omega), cond_false, xbeq_f (show pc ≠ 113 by omega), cond_false]
set_option maxRecDepth 100000 in
theorem xde_118 : xDe 118 := xDe_of (B := 114) xc_118 rfl xob_118 (by decide +kernel)
theorem xob_119 (pc : Nat) (h : 98 ≤ pc) : xc_119 pc = none := by
  unfold xc_119
  rw [xblt_f (show 54 ≤ pc by omega), cond_false, xblt_f (show 75 ≤ pc by omega), cond_false, xblt_f (show 87 ≤ pc by omega), cond_false, xblt_f (show 92 ≤ pc by omega), cond_false, xblt_f (show 96 ≤ pc by omega), cond_false, xblt_f (show 97 ≤ pc by omega), cond_false, xbeq_f (show pc ≠ 97 by omega), cond_false]
set_option maxRecDepth 100000 in
theorem xde_119 : xDe 119 := xDe_of (B := 98) xc_119 rfl xob_119 (by decide +kernel)
theorem xob_120 (pc : Nat) (h : 32 ≤ pc) : xc_120 pc = none := by
  unfold xc_120
  rw [xblt_f (show 16 ≤ pc by omega), cond_false, xblt_f (show 22 ≤ pc by omega), cond_false, xblt_f (show 25 ≤ pc by omega), cond_false, xblt_f (show 28 ≤ pc by omega), cond_false, xblt_f (show 31 ≤ pc by omega), cond_false, xbeq_f (show pc ≠ 31 by omega), cond_false]
set_option maxRecDepth 100000 in
theorem xde_120 : xDe 120 := xDe_of (B := 32) xc_120 rfl xob_120 (by decide +kernel)
theorem xob_121 (pc : Nat) (h : 66 ≤ pc) : xc_121 pc = none := by
  unfold xc_121
  rw [xblt_f (show 32 ≤ pc by omega), cond_false, xblt_f (show 49 ≤ pc by omega), cond_false, xblt_f (show 58 ≤ pc by omega), cond_false, xblt_f (show 61 ≤ pc by omega), cond_false, xblt_f (show 62 ≤ pc by omega), cond_false, xblt_f (show 65 ≤ pc by omega), cond_false, xbeq_f (show pc ≠ 65 by omega), cond_false]
set_option maxRecDepth 100000 in
theorem xde_121 : xDe 121 := xDe_of (B := 66) xc_121 rfl xob_121 (by decide +kernel)
theorem xob_122 (pc : Nat) (h : 15 ≤ pc) : xc_122 pc = none := by
  unfold xc_122
  rw [xblt_f (show 6 ≤ pc by omega), cond_false, xblt_f (show 10 ≤ pc by omega), cond_false, xblt_f (show 13 ≤ pc by omega), cond_false, xblt_f (show 14 ≤ pc by omega), cond_false, xbeq_f (show pc ≠ 14 by omega), cond_false]
set_option maxRecDepth 100000 in
theorem xde_122 : xDe 122 := xDe_of (B := 15) xc_122 rfl xob_122 (by decide +kernel)
theorem xob_123 (pc : Nat) (h : 15 ≤ pc) : xc_123 pc = none := by
  unfold xc_123
  rw [xblt_f (show 7 ≤ pc by omega), cond_false, xblt_f (show 10 ≤ pc by omega), cond_false, xblt_f (show 11 ≤ pc by omega), cond_false, xblt_f (show 14 ≤ pc by omega), cond_false, xbeq_f (show pc ≠ 14 by omega), cond_false]
set_option maxRecDepth 100000 in
theorem xde_123 : xDe 123 := xDe_of (B := 15) xc_123 rfl xob_123 (by decide +kernel)
theorem xob_124 (pc : Nat) (h : 15 ≤ pc) : xc_124 pc = none := by
  unfold xc_124
  rw [xblt_f (show 7 ≤ pc by omega), cond_false, xblt_f (show 10 ≤ pc by omega), cond_false, xblt_f (show 11 ≤ pc by omega), cond_false, xblt_f (show 14 ≤ pc by omega), cond_false, xbeq_f (show pc ≠ 14 by omega), cond_false]
set_option maxRecDepth 100000 in
theorem xde_124 : xDe 124 := xDe_of (B := 15) xc_124 rfl xob_124 (by decide +kernel)
theorem xob_125 (pc : Nat) (h : 7 ≤ pc) : xc_125 pc = none := by
  unfold xc_125
  rw [xblt_f (show 2 ≤ pc by omega), cond_false, xblt_f (show 3 ≤ pc by omega), cond_false, xblt_f (show 6 ≤ pc by omega), cond_false, xbeq_f (show pc ≠ 6 by omega), cond_false]
set_option maxRecDepth 100000 in
theorem xde_125 : xDe 125 := xDe_of (B := 7) xc_125 rfl xob_125 (by decide +kernel)
theorem xob_126 (pc : Nat) (h : 15 ≤ pc) : xc_126 pc = none := by
  unfold xc_126
  rw [xblt_f (show 5 ≤ pc by omega), cond_false, xblt_f (show 10 ≤ pc by omega), cond_false, xblt_f (show 13 ≤ pc by omega), cond_false, xblt_f (show 14 ≤ pc by omega), cond_false, xbeq_f (show pc ≠ 14 by omega), cond_false]
set_option maxRecDepth 100000 in
theorem xde_126 : xDe 126 := xDe_of (B := 15) xc_126 rfl xob_126 (by decide +kernel)
theorem xob_127 (pc : Nat) (h : 22 ≤ pc) : xc_127 pc = none := by
  unfold xc_127
  rw [xblt_f (show 12 ≤ pc by omega), cond_false, xblt_f (show 16 ≤ pc by omega), cond_false, xblt_f (show 20 ≤ pc by omega), cond_false, xblt_f (show 21 ≤ pc by omega), cond_false, xbeq_f (show pc ≠ 21 by omega), cond_false]
set_option maxRecDepth 100000 in
theorem xde_127 : xDe 127 := xDe_of (B := 22) xc_127 rfl xob_127 (by decide +kernel)
theorem xob_128 (pc : Nat) (h : 92 ≤ pc) : xc_128 pc = none := by
  unfold xc_128
  rw [xblt_f (show 47 ≤ pc by omega), cond_false, xblt_f (show 69 ≤ pc by omega), cond_false, xblt_f (show 81 ≤ pc by omega), cond_false, xblt_f (show 84 ≤ pc by omega), cond_false, xblt_f (show 90 ≤ pc by omega), cond_false, xblt_f (show 91 ≤ pc by omega), cond_false, xbeq_f (show pc ≠ 91 by omega), cond_false]
set_option maxRecDepth 100000 in
theorem xde_128 : xDe 128 := xDe_of (B := 92) xc_128 rfl xob_128 (by decide +kernel)
theorem xob_129 (pc : Nat) (h : 35 ≤ pc) : xc_129 pc = none := by
  unfold xc_129
  rw [xblt_f (show 16 ≤ pc by omega), cond_false, xblt_f (show 25 ≤ pc by omega), cond_false, xblt_f (show 29 ≤ pc by omega), cond_false, xblt_f (show 32 ≤ pc by omega), cond_false, xblt_f (show 34 ≤ pc by omega), cond_false, xbeq_f (show pc ≠ 34 by omega), cond_false]
set_option maxRecDepth 100000 in
theorem xde_129 : xDe 129 := xDe_of (B := 35) xc_129 rfl xob_129 (by decide +kernel)
theorem xob_130 (pc : Nat) (h : 46 ≤ pc) : xc_130 pc = none := by
  unfold xc_130
  rw [xblt_f (show 22 ≤ pc by omega), cond_false, xblt_f (show 35 ≤ pc by omega), cond_false, xblt_f (show 40 ≤ pc by omega), cond_false, xblt_f (show 42 ≤ pc by omega), cond_false, xblt_f (show 45 ≤ pc by omega), cond_false, xbeq_f (show pc ≠ 45 by omega), cond_false]
set_option maxRecDepth 100000 in
theorem xde_130 : xDe 130 := xDe_of (B := 46) xc_130 rfl xob_130 (by decide +kernel)
theorem xob_131 (pc : Nat) (h : 62 ≤ pc) : xc_131 pc = none := by
  unfold xc_131
  rw [xblt_f (show 31 ≤ pc by omega), cond_false, xblt_f (show 45 ≤ pc by omega), cond_false, xblt_f (show 52 ≤ pc by omega), cond_false, xblt_f (show 57 ≤ pc by omega), cond_false, xblt_f (show 60 ≤ pc by omega), cond_false, xblt_f (show 61 ≤ pc by omega), cond_false, xbeq_f (show pc ≠ 61 by omega), cond_false]
set_option maxRecDepth 100000 in
theorem xde_131 : xDe 131 := xDe_of (B := 62) xc_131 rfl xob_131 (by decide +kernel)
theorem xob_132 (pc : Nat) (h : 42 ≤ pc) : xc_132 pc = none := by
  unfold xc_132
  rw [xblt_f (show 23 ≤ pc by omega), cond_false, xblt_f (show 30 ≤ pc by omega), cond_false, xblt_f (show 37 ≤ pc by omega), cond_false, xblt_f (show 40 ≤ pc by omega), cond_false, xblt_f (show 41 ≤ pc by omega), cond_false, xbeq_f (show pc ≠ 41 by omega), cond_false]
set_option maxRecDepth 100000 in
theorem xde_132 : xDe 132 := xDe_of (B := 42) xc_132 rfl xob_132 (by decide +kernel)
theorem xob_133 (pc : Nat) (h : 32 ≤ pc) : xc_133 pc = none := by
  unfold xc_133
  rw [xblt_f (show 12 ≤ pc by omega), cond_false, xblt_f (show 23 ≤ pc by omega), cond_false, xblt_f (show 27 ≤ pc by omega), cond_false, xblt_f (show 30 ≤ pc by omega), cond_false, xblt_f (show 31 ≤ pc by omega), cond_false, xbeq_f (show pc ≠ 31 by omega), cond_false]
set_option maxRecDepth 100000 in
theorem xde_133 : xDe 133 := xDe_of (B := 32) xc_133 rfl xob_133 (by decide +kernel)
theorem xob_134 (pc : Nat) (h : 35 ≤ pc) : xc_134 pc = none := by
  unfold xc_134
  rw [xblt_f (show 17 ≤ pc by omega), cond_false, xblt_f (show 27 ≤ pc by omega), cond_false, xblt_f (show 30 ≤ pc by omega), cond_false, xblt_f (show 31 ≤ pc by omega), cond_false, xblt_f (show 34 ≤ pc by omega), cond_false, xbeq_f (show pc ≠ 34 by omega), cond_false]
set_option maxRecDepth 100000 in
theorem xde_134 : xDe 134 := xDe_of (B := 35) xc_134 rfl xob_134 (by decide +kernel)
theorem xob_135 (pc : Nat) (h : 168 ≤ pc) : xc_135 pc = none := by
  unfold xc_135
  rw [xblt_f (show 83 ≤ pc by omega), cond_false, xblt_f (show 120 ≤ pc by omega), cond_false, xblt_f (show 144 ≤ pc by omega), cond_false, xblt_f (show 156 ≤ pc by omega), cond_false, xblt_f (show 162 ≤ pc by omega), cond_false, xblt_f (show 165 ≤ pc by omega), cond_false, xblt_f (show 167 ≤ pc by omega), cond_false, xbeq_f (show pc ≠ 167 by omega), cond_false]
set_option maxRecDepth 100000 in
theorem xde_135 : xDe 135 := xDe_of (B := 168) xc_135 rfl xob_135 (by decide +kernel)
theorem xob_136 (pc : Nat) (h : 36 ≤ pc) : xc_136 pc = none := by
  unfold xc_136
  rw [xblt_f (show 19 ≤ pc by omega), cond_false, xblt_f (show 30 ≤ pc by omega), cond_false, xblt_f (show 33 ≤ pc by omega), cond_false, xblt_f (show 34 ≤ pc by omega), cond_false, xblt_f (show 35 ≤ pc by omega), cond_false, xbeq_f (show pc ≠ 35 by omega), cond_false]
set_option maxRecDepth 100000 in
theorem xde_136 : xDe 136 := xDe_of (B := 36) xc_136 rfl xob_136 (by decide +kernel)
theorem xob_137 (pc : Nat) (h : 62 ≤ pc) : xc_137 pc = none := by
  unfold xc_137
  rw [xblt_f (show 33 ≤ pc by omega), cond_false, xblt_f (show 48 ≤ pc by omega), cond_false, xblt_f (show 53 ≤ pc by omega), cond_false, xblt_f (show 57 ≤ pc by omega), cond_false, xblt_f (show 60 ≤ pc by omega), cond_false, xblt_f (show 61 ≤ pc by omega), cond_false, xbeq_f (show pc ≠ 61 by omega), cond_false]
set_option maxRecDepth 100000 in
theorem xde_137 : xDe 137 := xDe_of (B := 62) xc_137 rfl xob_137 (by decide +kernel)
theorem xob_138 (pc : Nat) (h : 63 ≤ pc) : xc_138 pc = none := by
  unfold xc_138
  rw [xblt_f (show 30 ≤ pc by omega), cond_false, xblt_f (show 46 ≤ pc by omega), cond_false, xblt_f (show 53 ≤ pc by omega), cond_false, xblt_f (show 58 ≤ pc by omega), cond_false, xblt_f (show 61 ≤ pc by omega), cond_false, xblt_f (show 62 ≤ pc by omega), cond_false, xbeq_f (show pc ≠ 62 by omega), cond_false]
set_option maxRecDepth 100000 in
theorem xde_138 : xDe 138 := xDe_of (B := 63) xc_138 rfl xob_138 (by decide +kernel)
theorem xob_139 (pc : Nat) (h : 47 ≤ pc) : xc_139 pc = none := by
  unfold xc_139
  rw [xblt_f (show 23 ≤ pc by omega), cond_false, xblt_f (show 35 ≤ pc by omega), cond_false, xblt_f (show 40 ≤ pc by omega), cond_false, xblt_f (show 45 ≤ pc by omega), cond_false, xblt_f (show 46 ≤ pc by omega), cond_false, xbeq_f (show pc ≠ 46 by omega), cond_false]
set_option maxRecDepth 100000 in
theorem xde_139 : xDe 139 := xDe_of (B := 47) xc_139 rfl xob_139 (by decide +kernel)
theorem xob_140 (pc : Nat) (h : 48 ≤ pc) : xc_140 pc = none := by
  unfold xc_140
  rw [xblt_f (show 23 ≤ pc by omega), cond_false, xblt_f (show 36 ≤ pc by omega), cond_false, xblt_f (show 39 ≤ pc by omega), cond_false, xblt_f (show 45 ≤ pc by omega), cond_false, xblt_f (show 47 ≤ pc by omega), cond_false, xbeq_f (show pc ≠ 47 by omega), cond_false]
set_option maxRecDepth 100000 in
theorem xde_140 : xDe 140 := xDe_of (B := 48) xc_140 rfl xob_140 (by decide +kernel)
theorem xob_141 (pc : Nat) (h : 48 ≤ pc) : xc_141 pc = none := by
  unfold xc_141
  rw [xblt_f (show 23 ≤ pc by omega), cond_false, xblt_f (show 36 ≤ pc by omega), cond_false, xblt_f (show 39 ≤ pc by omega), cond_false, xblt_f (show 45 ≤ pc by omega), cond_false, xblt_f (show 47 ≤ pc by omega), cond_false, xbeq_f (show pc ≠ 47 by omega), cond_false]
set_option maxRecDepth 100000 in
theorem xde_141 : xDe 141 := xDe_of (B := 48) xc_141 rfl xob_141 (by decide +kernel)
theorem xob_142 (pc : Nat) (h : 99 ≤ pc) : xc_142 pc = none := by
  unfold xc_142
  rw [xblt_f (show 48 ≤ pc by omega), cond_false, xblt_f (show 72 ≤ pc by omega), cond_false, xblt_f (show 83 ≤ pc by omega), cond_false, xblt_f (show 89 ≤ pc by omega), cond_false, xblt_f (show 95 ≤ pc by omega), cond_false, xblt_f (show 98 ≤ pc by omega), cond_false, xbeq_f (show pc ≠ 98 by omega), cond_false]
set_option maxRecDepth 100000 in
theorem xde_142 : xDe 142 := xDe_of (B := 99) xc_142 rfl xob_142 (by decide +kernel)
theorem xob_143 (pc : Nat) (h : 60 ≤ pc) : xc_143 pc = none := by
  unfold xc_143
  rw [xblt_f (show 25 ≤ pc by omega), cond_false, xblt_f (show 42 ≤ pc by omega), cond_false, xblt_f (show 51 ≤ pc by omega), cond_false, xblt_f (show 55 ≤ pc by omega), cond_false, xblt_f (show 58 ≤ pc by omega), cond_false, xblt_f (show 59 ≤ pc by omega), cond_false, xbeq_f (show pc ≠ 59 by omega), cond_false]
set_option maxRecDepth 100000 in
theorem xde_143 : xDe 143 := xDe_of (B := 60) xc_143 rfl xob_143 (by decide +kernel)
end
