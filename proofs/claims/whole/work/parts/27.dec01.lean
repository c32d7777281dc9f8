/-! the code tables are the bytes, on (printed by wip/tools/mk26.py) -/
noncomputable section
theorem xob_53 (pc : Nat) (h : 34 ≤ pc) : xc_53 pc = none := by
  unfold xc_53
  rw [xblt_f (show 16 ≤ pc by omega), cond_false, xblt_f (show 25 ≤ pc by omega), cond_false, xblt_f (show 29 ≤ pc by omega), cond_false, xblt_f (show 32 ≤ pc by omega), cond_false, xblt_f (show 33 ≤ pc by omega), cond_false, xbeq_f (show pc ≠ 33 by omega), cond_false]
set_option maxRecDepth 100000 in
theorem xde_53 : xDe 53 := xDe_of (B := 34) xc_53 rfl xob_53 (by decide +kernel)
theorem xob_54 (pc : Nat) (h : 95 ≤ pc) : xc_54 pc = none := by
  unfold xc_54
  rw [xblt_f (show 49 ≤ pc by omega), cond_false, xblt_f (show 73 ≤ pc by omega), cond_false, xblt_f (show 87 ≤ pc by omega), cond_false, xblt_f (show 91 ≤ pc by omega), cond_false, xblt_f (show 93 ≤ pc by omega), cond_false, xblt_f (show 94 ≤ pc by omega), cond_false, xbeq_f (show pc ≠ 94 by omega), cond_false]
set_option maxRecDepth 100000 in
theorem xde_54 : xDe 54 := xDe_of (B := 95) xc_54 rfl xob_54 (by decide +kernel)
theorem xob_55 (pc : Nat) (h : 87 ≤ pc) : xc_55 pc = none := by
  unfold xc_55
  rw [xblt_f (show 41 ≤ pc by omega), cond_false, xblt_f (show 65 ≤ pc by omega), cond_false, xblt_f (show 77 ≤ pc by omega), cond_false, xblt_f (show 82 ≤ pc by omega), cond_false, xblt_f (show 85 ≤ pc by omega), cond_false, xblt_f (show 86 ≤ pc by omega), cond_false, xbeq_f (show pc ≠ 86 by omega), cond_false]
set_option maxRecDepth 100000 in
theorem xde_55 : xDe 55 := xDe_of (B := 87) xc_55 rfl xob_55 (by decide +kernel)
theorem xob_56 (pc : Nat) (h : 36 ≤ pc) : xc_56 pc = none := by
  unfold xc_56
  rw [xblt_f (show 18 ≤ pc by omega), cond_false, xblt_f (show 26 ≤ pc by omega), cond_false, xblt_f (show 31 ≤ pc by omega), cond_false, xblt_f (show 34 ≤ pc by omega), cond_false, xblt_f (show 35 ≤ pc by omega), cond_false, xbeq_f (show pc ≠ 35 by omega), cond_false]
set_option maxRecDepth 100000 in
theorem xde_56 : xDe 56 := xDe_of (B := 36) xc_56 rfl xob_56 (by decide +kernel)
theorem xob_57 (pc : Nat) (h : 41 ≤ pc) : xc_57 pc = none := by
  unfold xc_57
  rw [xblt_f (show 17 ≤ pc by omega), cond_false, xblt_f (show 29 ≤ pc by omega), cond_false, xblt_f (show 34 ≤ pc by omega), cond_false, xblt_f (show 37 ≤ pc by omega), cond_false, xblt_f (show 40 ≤ pc by omega), cond_false, xbeq_f (show pc ≠ 40 by omega), cond_false]
set_option maxRecDepth 100000 in
theorem xde_57 : xDe 57 := xDe_of (B := 41) xc_57 rfl xob_57 (by decide +kernel)
theorem xob_58 (pc : Nat) (h : 55 ≤ pc) : xc_58 pc = none := by
  unfold xc_58
  rw [xblt_f (show 24 ≤ pc by omega), cond_false, xblt_f (show 37 ≤ pc by omega), cond_false, xblt_f (show 47 ≤ pc by omega), cond_false, xblt_f (show 51 ≤ pc by omega), cond_false, xblt_f (show 54 ≤ pc by omega), cond_false, xbeq_f (show pc ≠ 54 by omega), cond_false]
set_option maxRecDepth 100000 in
theorem xde_58 : xDe 58 := xDe_of (B := 55) xc_58 rfl xob_58 (by decide +kernel)
theorem xob_59 (pc : Nat) (h : 99 ≤ pc) : xc_59 pc = none := by
  unfold xc_59
  rw [xblt_f (show 48 ≤ pc by omega), cond_false, xblt_f (show 72 ≤ pc by omega), cond_false, xblt_f (show 88 ≤ pc by omega), cond_false, xblt_f (show 95 ≤ pc by omega), cond_false, xblt_f (show 97 ≤ pc by omega), cond_false, xblt_f (show 98 ≤ pc by omega), cond_false, xbeq_f (show pc ≠ 98 by omega), cond_false]
set_option maxRecDepth 100000 in
theorem xde_59 : xDe 59 := xDe_of (B := 99) xc_59 rfl xob_59 (by decide +kernel)
theorem xob_60 (pc : Nat) (h : 37 ≤ pc) : xc_60 pc = none := by
  unfold xc_60
  rw [xblt_f (show 16 ≤ pc by omega), cond_false, xblt_f (show 27 ≤ pc by omega), cond_false, xblt_f (show 32 ≤ pc by omega), cond_false, xblt_f (show 33 ≤ pc by omega), cond_false, xblt_f (show 36 ≤ pc by omega), cond_false, xbeq_f (show pc ≠ 36 by omega), cond_false]
set_option maxRecDepth 100000 in
theorem xde_60 : xDe 60 := xDe_of (B := 37) xc_60 rfl xob_60 (by decide +kernel)
theorem xob_61 (pc : Nat) (h : 64 ≤ pc) : xc_61 pc = none := by
  unfold xc_61
  rw [xblt_f (show 30 ≤ pc by omega), cond_false, xblt_f (show 47 ≤ pc by omega), cond_false, xblt_f (show 55 ≤ pc by omega), cond_false, xblt_f (show 59 ≤ pc by omega), cond_false, xblt_f (show 62 ≤ pc by omega), cond_false, xblt_f (show 63 ≤ pc by omega), cond_false, xbeq_f (show pc ≠ 63 by omega), cond_false]
set_option maxRecDepth 100000 in
theorem xde_61 : xDe 61 := xDe_of (B := 64) xc_61 rfl xob_61 (by decide +kernel)
theorem xob_62 (pc : Nat) (h : 80 ≤ pc) : xc_62 pc = none := by
  unfold xc_62
  rw [xblt_f (show 37 ≤ pc by omega), cond_false, xblt_f (show 58 ≤ pc by omega), cond_false, xblt_f (show 67 ≤ pc by omega), cond_false, xblt_f (show 74 ≤ pc by omega), cond_false, xblt_f (show 77 ≤ pc by omega), cond_false, xblt_f (show 79 ≤ pc by omega), cond_false, xbeq_f (show pc ≠ 79 by omega), cond_false]
set_option maxRecDepth 100000 in
theorem xde_62 : xDe 62 := xDe_of (B := 80) xc_62 rfl xob_62 (by decide +kernel)
theorem xob_63 (pc : Nat) (h : 94 ≤ pc) : xc_63 pc = none := by
  unfold xc_63
  rw [xblt_f (show 45 ≤ pc by omega), cond_false, xblt_f (show 71 ≤ pc by omega), cond_false, xblt_f (show 83 ≤ pc by omega), cond_false, xblt_f (show 88 ≤ pc by omega), cond_false, xblt_f (show 91 ≤ pc by omega), cond_false, xblt_f (show 93 ≤ pc by omega), cond_false, xbeq_f (show pc ≠ 93 by omega), cond_false]
set_option maxRecDepth 100000 in
theorem xde_63 : xDe 63 := xDe_of (B := 94) xc_63 rfl xob_63 (by decide +kernel)
theorem xob_64 (pc : Nat) (h : 50 ≤ pc) : xc_64 pc = none := by
  unfold xc_64
  rw [xblt_f (show 28 ≤ pc by omega), cond_false, xblt_f (show 41 ≤ pc by omega), cond_false, xblt_f (show 44 ≤ pc by omega), cond_false, xblt_f (show 48 ≤ pc by omega), cond_false, xblt_f (show 49 ≤ pc by omega), cond_false, xbeq_f (show pc ≠ 49 by omega), cond_false]
set_option maxRecDepth 100000 in
theorem xde_64 : xDe 64 := xDe_of (B := 50) xc_64 rfl xob_64 (by decide +kernel)
theorem xob_65 (pc : Nat) (h : 78 ≤ pc) : xc_65 pc = none := by
  unfold xc_65
  rw [xblt_f (show 43 ≤ pc by omega), cond_false, xblt_f (show 62 ≤ pc by omega), cond_false, xblt_f (show 68 ≤ pc by omega), cond_false, xblt_f (show 73 ≤ pc by omega), cond_false, xblt_f (show 76 ≤ pc by omega), cond_false, xblt_f (show 77 ≤ pc by omega), cond_false, xbeq_f (show pc ≠ 77 by omega), cond_false]
set_option maxRecDepth 100000 in
theorem xde_65 : xDe 65 := xDe_of (B := 78) xc_65 rfl xob_65 (by decide +kernel)
theorem xob_66 (pc : Nat) (h : 65 ≤ pc) : xc_66 pc = none := by
  unfold xc_66
  rw [xblt_f (show 36 ≤ pc by omega), cond_false, xblt_f (show 51 ≤ pc by omega), cond_false, xblt_f (show 56 ≤ pc by omega), cond_false, xblt_f (show 60 ≤ pc by omega), cond_false, xblt_f (show 63 ≤ pc by omega), cond_false, xblt_f (show 64 ≤ pc by omega), cond_false, xbeq_f (show pc ≠ 64 by omega), cond_false]
set_option maxRecDepth 100000 in
theorem xde_66 : xDe 66 := xDe_of (B := 65) xc_66 rfl xob_66 (by decide +kernel)
theorem xob_67 (pc : Nat) (h : 30 ≤ pc) : xc_67 pc = none := by
  unfold xc_67
  rw [xblt_f (show 15 ≤ pc by omega), cond_false, xblt_f (show 20 ≤ pc by omega), cond_false, xblt_f (show 26 ≤ pc by omega), cond_false, xblt_f (show 29 ≤ pc by omega), cond_false, xbeq_f (show pc ≠ 29 by omega), cond_false]
set_option maxRecDepth 100000 in
theorem xde_67 : xDe 67 := xDe_of (B := 30) xc_67 rfl xob_67 (by decide +kernel)
theorem xob_68 (pc : Nat) (h : 47 ≤ pc) : xc_68 pc = none := by
  unfold xc_68
  rw [xblt_f (show 23 ≤ pc by omega), cond_false, xblt_f (show 35 ≤ pc by omega), cond_false, xblt_f (show 42 ≤ pc by omega), cond_false, xblt_f (show 43 ≤ pc by omega), cond_false, xblt_f (show 46 ≤ pc by omega), cond_false, xbeq_f (show pc ≠ 46 by omega), cond_false]
set_option maxRecDepth 100000 in
theorem xde_68 : xDe 68 := xDe_of (B := 47) xc_68 rfl xob_68 (by decide +kernel)
theorem xob_69 (pc : Nat) (h : 50 ≤ pc) : xc_69 pc = none := by
  unfold xc_69
  rw [xblt_f (show 22 ≤ pc by omega), cond_false, xblt_f (show 37 ≤ pc by omega), cond_false, xblt_f (show 42 ≤ pc by omega), cond_false, xblt_f (show 48 ≤ pc by omega), cond_false, xblt_f (show 49 ≤ pc by omega), cond_false, xbeq_f (show pc ≠ 49 by omega), cond_false]
set_option maxRecDepth 100000 in
theorem xde_69 : xDe 69 := xDe_of (B := 50) xc_69 rfl xob_69 (by decide +kernel)
theorem xob_70 (pc : Nat) (h : 29 ≤ pc) : xc_70 pc = none := by
  unfold xc_70
  rw [xblt_f (show 13 ≤ pc by omega), cond_false, xblt_f (show 20 ≤ pc by omega), cond_false, xblt_f (show 26 ≤ pc by omega), cond_false, xblt_f (show 28 ≤ pc by omega), cond_false, xbeq_f (show pc ≠ 28 by omega), cond_false]
set_option maxRecDepth 100000 in
theorem xde_70 : xDe 70 := xDe_of (B := 29) xc_70 rfl xob_70 (by decide +kernel)
theorem xob_71 (pc : Nat) (h : 91 ≤ pc) : xc_71 pc = none := by
  unfold xc_71
  rw [xblt_f (show 50 ≤ pc by omega), cond_false, xblt_f (show 70 ≤ pc by omega), cond_false, xblt_f (show 78 ≤ pc by omega), cond_false, xblt_f (show 83 ≤ pc by omega), cond_false, xblt_f (show 89 ≤ pc by omega), cond_false, xblt_f (show 90 ≤ pc by omega), cond_false, xbeq_f (show pc ≠ 90 by omega), cond_false]
set_option maxRecDepth 100000 in
theorem xde_71 : xDe 71 := xDe_of (B := 91) xc_71 rfl xob_71 (by decide +kernel)
theorem xob_72 (pc : Nat) (h : 93 ≤ pc) : xc_72 pc = none := by
  unfold xc_72
  rw [xblt_f (show 35 ≤ pc by omega), cond_false, xblt_f (show 53 ≤ pc by omega), cond_false, xblt_f (show 85 ≤ pc by omega), cond_false, xblt_f (show 89 ≤ pc by omega), cond_false, xblt_f (show 90 ≤ pc by omega), cond_false, xblt_f (show 92 ≤ pc by omega), cond_false, xbeq_f (show pc ≠ 92 by omega), cond_false]
set_option maxRecDepth 100000 in
theorem xde_72 : xDe 72 := xDe_of (B := 93) xc_72 rfl xob_72 (by decide +kernel)
theorem xob_73 (pc : Nat) (h : 93 ≤ pc) : xc_73 pc = none := by
  unfold xc_73
  rw [xblt_f (show 46 ≤ pc by omega), cond_false, xblt_f (show 69 ≤ pc by omega), cond_false, xblt_f (show 81 ≤ pc by omega), cond_false, xblt_f (show 87 ≤ pc by omega), cond_false, xblt_f (show 90 ≤ pc by omega), cond_false, xblt_f (show 92 ≤ pc by omega), cond_false, xbeq_f (show pc ≠ 92 by omega), cond_false]
set_option maxRecDepth 100000 in
theorem xde_73 : xDe 73 := xDe_of (B := 93) xc_73 rfl xob_73 (by decide +kernel)
theorem xob_74 (pc : Nat) (h : 47 ≤ pc) : xc_74 pc = none := by
  unfold xc_74
  rw [xblt_f (show 22 ≤ pc by omega), cond_false, xblt_f (show 33 ≤ pc by omega), cond_false, xblt_f (show 40 ≤ pc by omega), cond_false, xblt_f (show 43 ≤ pc by omega), cond_false, xblt_f (show 46 ≤ pc by omega), cond_false, xbeq_f (show pc ≠ 46 by omega), cond_false]
set_option maxRecDepth 100000 in
theorem xde_74 : xDe 74 := xDe_of (B := 47) xc_74 rfl xob_74 (by decide +kernel)
theorem xob_75 (pc : Nat) (h : 149 ≤ pc) : xc_75 pc = none := by
  unfold xc_75
  rw [xblt_f (show 100 ≤ pc by omega), cond_false, xblt_f (show 128 ≤ pc by omega), cond_false, xblt_f (show 138 ≤ pc by omega), cond_false, xblt_f (show 143 ≤ pc by omega), cond_false, xblt_f (show 147 ≤ pc by omega), cond_false, xblt_f (show 148 ≤ pc by omega), cond_false, xbeq_f (show pc ≠ 148 by omega), cond_false]
set_option maxRecDepth 100000 in
theorem xde_75 : xDe 75 := xDe_of (B := 149) xc_75 rfl xob_75 (by decide +kernel)
theorem xob_76 (pc : Nat) (h : 32 ≤ pc) : xc_76 pc = none := by
  unfold xc_76
  rw [xblt_f (show 13 ≤ pc by omega), cond_false, xblt_f (show 21 ≤ pc by omega), cond_false, xblt_f (show 27 ≤ pc by omega), cond_false, xblt_f (show 30 ≤ pc by omega), cond_false, xblt_f (show 31 ≤ pc by omega), cond_false, xbeq_f (show pc ≠ 31 by omega), cond_false]
set_option maxRecDepth 100000 in
theorem xde_76 : xDe 76 := xDe_of (B := 32) xc_76 rfl xob_76 (by decide +kernel)
theorem xob_77 (pc : Nat) (h : 34 ≤ pc) : xc_77 pc = none := by
  unfold xc_77
  rw [xblt_f (show 17 ≤ pc by omega), cond_false, xblt_f (show 26 ≤ pc by omega), cond_false, xblt_f (show 31 ≤ pc by omega), cond_false, xblt_f (show 32 ≤ pc by omega), cond_false, xblt_f (show 33 ≤ pc by omega), cond_false, xbeq_f (show pc ≠ 33 by omega), cond_false]
set_option maxRecDepth 100000 in
theorem xde_77 : xDe 77 := xDe_of (B := 34) xc_77 rfl xob_77 (by decide +kernel)
theorem xob_78 (pc : Nat) (h : 43 ≤ pc) : xc_78 pc = none := by
  unfold xc_78
  rw [xblt_f (show 21 ≤ pc by omega), cond_false, xblt_f (show 32 ≤ pc by omega), cond_false, xblt_f (show 37 ≤ pc by omega), cond_false, xblt_f (show 41 ≤ pc by omega), cond_false, xblt_f (show 42 ≤ pc by omega), cond_false, xbeq_f (show pc ≠ 42 by omega), cond_false]
set_option maxRecDepth 100000 in
theorem xde_78 : xDe 78 := xDe_of (B := 43) xc_78 rfl xob_78 (by decide +kernel)
theorem xob_79 (pc : Nat) (h : 45 ≤ pc) : xc_79 pc = none := by
  unfold xc_79
  rw [xblt_f (show 25 ≤ pc by omega), cond_false, xblt_f (show 36 ≤ pc by omega), cond_false, xblt_f (show 39 ≤ pc by omega), cond_false, xblt_f (show 43 ≤ pc by omega), cond_false, xblt_f (show 44 ≤ pc by omega), cond_false, xbeq_f (show pc ≠ 44 by omega), cond_false]
set_option maxRecDepth 100000 in
theorem xde_79 : xDe 79 := xDe_of (B := 45) xc_79 rfl xob_79 (by decide +kernel)
theorem xob_80 (pc : Nat) (h : 58 ≤ pc) : xc_80 pc = none := by
  unfold xc_80
  rw [xblt_f (show 30 ≤ pc by omega), cond_false, xblt_f (show 45 ≤ pc by omega), cond_false, xblt_f (show 51 ≤ pc by omega), cond_false, xblt_f (show 53 ≤ pc by omega), cond_false, xblt_f (show 56 ≤ pc by omega), cond_false, xblt_f (show 57 ≤ pc by omega), cond_false, xbeq_f (show pc ≠ 57 by omega), cond_false]
set_option maxRecDepth 100000 in
theorem xde_80 : xDe 80 := xDe_of (B := 58) xc_80 rfl xob_80 (by decide +kernel)
theorem xob_81 (pc : Nat) (h : 114 ≤ pc) : xc_81 pc = none := by
  unfold xc_81
  rw [xblt_f (show 54 ≤ pc by omega), cond_false, xblt_f (show 85 ≤ pc by omega), cond_false, xblt_f (show 100 ≤ pc by omega), cond_false, xblt_f (show 107 ≤ pc by omega), cond_false, xblt_f (show 112 ≤ pc by omega), cond_false, xblt_f (show 113 ≤ pc by omega), cond_false, xbeq_f (show pc ≠ 113 by omega), cond_false]
set_option maxRecDepth 100000 in
theorem xde_81 : xDe 81 := xDe_of (B := 114) xc_81 rfl xob_81 (by decide +kernel)
theorem xob_82 (pc : Nat) (h : 6 ≤ pc) : xc_82 pc = none := by
  unfold xc_82
  rw [xblt_f (show 3 ≤ pc by omega), cond_false, xblt_f (show 4 ≤ pc by omega), cond_false, xblt_f (show 5 ≤ pc by omega), cond_false, xbeq_f (show pc ≠ 5 by omega), cond_false]
set_option maxRecDepth 100000 in
theorem xde_82 : xDe 82 := xDe_of (B := 6) xc_82 rfl xob_82 (by decide +kernel)
theorem xob_83 (pc : Nat) (h : 15 ≤ pc) : xc_83 pc = none := by
  unfold xc_83
  rw [xblt_f (show 6 ≤ pc by omega), cond_false, xblt_f (show 10 ≤ pc by omega), cond_false, xblt_f (show 13 ≤ pc by omega), cond_false, xblt_f (show 14 ≤ pc by omega), cond_false, xbeq_f (show pc ≠ 14 by omega), cond_false]
set_option maxRecDepth 100000 in
theorem xde_83 : xDe 83 := xDe_of (B := 15) xc_83 rfl xob_83 (by decide +kernel)
theorem xob_84 (pc : Nat) (h : 15 ≤ pc) : xc_84 pc = none := by
  unfold xc_84
  rw [xblt_f (show 6 ≤ pc by omega), cond_false, xblt_f (show 10 ≤ pc by omega), cond_false, xblt_f (show 13 ≤ pc by omega), cond_false, xblt_f (show 14 ≤ pc by omega), cond_false, xbeq_f (show pc ≠ 14 by omega), cond_false]
set_option maxRecDepth 100000 in
theorem xde_84 : xDe 84 := xDe_of (B := 15) xc_84 rfl xob_84 (by decide +kernel)
theorem xob_85 (pc : Nat) (h : 17 ≤ pc) : xc_85 pc = none := by
  unfold xc_85
  rw [xblt_f (show 8 ≤ pc by omega), cond_false, xblt_f (show 12 ≤ pc by omega), cond_false, xblt_f (show 15 ≤ pc by omega), cond_false, xblt_f (show 16 ≤ pc by omega), cond_false, xbeq_f (show pc ≠ 16 by omega), cond_false]
set_option maxRecDepth 100000 in
theorem xde_85 : xDe 85 := xDe_of (B := 17) xc_85 rfl xob_85 (by decide +kernel)
theorem xob_86 (pc : Nat) (h : 27 ≤ pc) : xc_86 pc = none := by
  unfold xc_86
  rw [xblt_f (show 15 ≤ pc by omega), cond_false, xblt_f (show 21 ≤ pc by omega), cond_false, xblt_f (show 25 ≤ pc by omega), cond_false, xblt_f (show 26 ≤ pc by omega), cond_false, xbeq_f (show pc ≠ 26 by omega), cond_false]
set_option maxRecDepth 100000 in
theorem xde_86 : xDe 86 := xDe_of (B := 27) xc_86 rfl xob_86 (by decide +kernel)
theorem xob_87 (pc : Nat) (h : 19 ≤ pc) : xc_87 pc = none := by
  unfold xc_87
  rw [xblt_f (show 9 ≤ pc by omega), cond_false, xblt_f (show 14 ≤ pc by omega), cond_false, xblt_f (show 17 ≤ pc by omega), cond_false, xblt_f (show 18 ≤ pc by omega), cond_false, xbeq_f (show pc ≠ 18 by omega), cond_false]
set_option maxRecDepth 100000 in
theorem xde_87 : xDe 87 := xDe_of (B := 19) xc_87 rfl xob_87 (by decide +kernel)
theorem xob_88 (pc : Nat) (h : 10 ≤ pc) : xc_88 pc = none := by
  unfold xc_88
  rw [xblt_f (show 3 ≤ pc by omega), cond_false, xblt_f (show 6 ≤ pc by omega), cond_false, xblt_f (show 9 ≤ pc by omega), cond_false, xbeq_f (show pc ≠ 9 by omega), cond_false]
set_option maxRecDepth 100000 in
theorem xde_88 : xDe 88 := xDe_of (B := 10) xc_88 rfl xob_88 (by decide +kernel)
theorem xob_89 (pc : Nat) (h : 84 ≤ pc) : xc_89 pc = none := by
  unfold xc_89
  rw [xblt_f (show 45 ≤ pc by omega), cond_false, xblt_f (show 63 ≤ pc by omega), cond_false, xblt_f (show 73 ≤ pc by omega), cond_false, xblt_f (show 76 ≤ pc by omega), cond_false, xblt_f (show 82 ≤ pc by omega), cond_false, xblt_f (show 83 ≤ pc by omega), cond_false, xbeq_f (show pc ≠ 83 by omega), cond_false]
set_option maxRecDepth 100000 in
theorem xde_89 : xDe 89 := xDe_of (B := 84) xc_89 rfl xob_89 (by decide +kernel)
theorem xob_90 (pc : Nat) (h : 36 ≤ pc) : xc_90 pc = none := by
  unfold xc_90
  rw [xblt_f (show 18 ≤ pc by omega), cond_false, xblt_f (show 28 ≤ pc by omega), cond_false, xblt_f (show 31 ≤ pc by omega), cond_false, xblt_f (show 34 ≤ pc by omega), cond_false, xblt_f (show 35 ≤ pc by omega), cond_false, xbeq_f (show pc ≠ 35 by omega), cond_false]
set_option maxRecDepth 100000 in
theorem xde_90 : xDe 90 := xDe_of (B := 36) xc_90 rfl xob_90 (by decide +kernel)
theorem xob_91 (pc : Nat) (h : 72 ≤ pc) : xc_91 pc = none := by
  unfold xc_91
  rw [xblt_f (show 37 ≤ pc by omega), cond_false, xblt_f (show 56 ≤ pc by omega), cond_false, xblt_f (show 64 ≤ pc by omega), cond_false, xblt_f (show 69 ≤ pc by omega), cond_false, xblt_f (show 70 ≤ pc by omega), cond_false, xblt_f (show 71 ≤ pc by omega), cond_false, xbeq_f (show pc ≠ 71 by omega), cond_false]
set_option maxRecDepth 100000 in
theorem xde_91 : xDe 91 := xDe_of (B := 72) xc_91 rfl xob_91 (by decide +kernel)
theorem xob_92 (pc : Nat) (h : 192 ≤ pc) : xc_92 pc = none := by
  unfold xc_92
  rw [xblt_f (show 97 ≤ pc by omega), cond_false, xblt_f (show 143 ≤ pc by omega), cond_false, xblt_f (show 169 ≤ pc by omega), cond_false, xblt_f (show 180 ≤ pc by omega), cond_false, xblt_f (show 184 ≤ pc by omega), cond_false, xblt_f (show 190 ≤ pc by omega), cond_false, xblt_f (show 191 ≤ pc by omega), cond_false, xbeq_f (show pc ≠ 191 by omega), cond_false]
set_option maxRecDepth 100000 in
theorem xde_92 : xDe 92 := xDe_of (B := 192) xc_92 rfl xob_92 (by decide +kernel)
theorem xob_93 (pc : Nat) (h : 52 ≤ pc) : xc_93 pc = none := by
  unfold xc_93
  rw [xblt_f (show 25 ≤ pc by omega), cond_false, xblt_f (show 36 ≤ pc by omega), cond_false, xblt_f (show 44 ≤ pc by omega), cond_false, xblt_f (show 48 ≤ pc by omega), cond_false, xblt_f (show 51 ≤ pc by omega), cond_false, xbeq_f (show pc ≠ 51 by omega), cond_false]
set_option maxRecDepth 100000 in
theorem xde_93 : xDe 93 := xDe_of (B := 52) xc_93 rfl xob_93 (by decide +kernel)
theorem xob_94 (pc : Nat) (h : 37 ≤ pc) : xc_94 pc = none := by
  unfold xc_94
  rw [xblt_f (show 18 ≤ pc by omega), cond_false, xblt_f (show 25 ≤ pc by omega), cond_false, xblt_f (show 30 ≤ pc by omega), cond_false, xblt_f (show 33 ≤ pc by omega), cond_false, xblt_f (show 36 ≤ pc by omega), cond_false, xbeq_f (show pc ≠ 36 by omega), cond_false]
set_option maxRecDepth 100000 in
theorem xde_94 : xDe 94 := xDe_of (B := 37) xc_94 rfl xob_94 (by decide +kernel)
theorem xob_95 (pc : Nat) (h : 28 ≤ pc) : xc_95 pc = none := by
  unfold xc_95
  rw [xblt_f (show 13 ≤ pc by omega), cond_false, xblt_f (show 21 ≤ pc by omega), cond_false, xblt_f (show 23 ≤ pc by omega), cond_false, xblt_f (show 26 ≤ pc by omega), cond_false, xblt_f (show 27 ≤ pc by omega), cond_false, xbeq_f (show pc ≠ 27 by omega), cond_false]
set_option maxRecDepth 100000 in
theorem xde_95 : xDe 95 := xDe_of (B := 28) xc_95 rfl xob_95 (by decide +kernel)
theorem xob_96 (pc : Nat) (h : 34 ≤ pc) : xc_96 pc = none := by
  unfold xc_96
  rw [xblt_f (show 18 ≤ pc by omega), cond_false, xblt_f (show 25 ≤ pc by omega), cond_false, xblt_f (show 29 ≤ pc by omega), cond_false, xblt_f (show 32 ≤ pc by omega), cond_false, xblt_f (show 33 ≤ pc by omega), cond_false, xbeq_f (show pc ≠ 33 by omega), cond_false]
set_option maxRecDepth 100000 in
theorem xde_96 : xDe 96 := xDe_of (B := 34) xc_96 rfl xob_96 (by decide +kernel)
theorem xob_97 (pc : Nat) (h : 308 ≤ pc) : xc_97 pc = none := by
  unfold xc_97
  rw [xblt_f (show 153 ≤ pc by omega), cond_false, xblt_f (show 235 ≤ pc by omega), cond_false, xblt_f (show 271 ≤ pc by omega), cond_false, xblt_f (show 290 ≤ pc by omega), cond_false, xblt_f (show 299 ≤ pc by omega), cond_false, xblt_f (show 303 ≤ pc by omega), cond_false, xblt_f (show 304 ≤ pc by omega), cond_false, xblt_f (show 307 ≤ pc by omega), cond_false, xbeq_f (show pc ≠ 307 by omega), cond_false]
set_option maxRecDepth 100000 in
theorem xde_97 : xDe 97 := xDe_of (B := 308) xc_97 rfl xob_97 (by decide +kernel)
end
