/-! the code tables are the bytes, on (printed by wip/tools/mk26.py) -/
noncomputable section
theorem xob_292 (pc : Nat) (h : 76 ≤ pc) : xc_292 pc = none := by
  unfold xc_292
  rw [xblt_f (show 37 ≤ pc by omega), cond_false, xblt_f (show 56 ≤ pc by omega), cond_false, xblt_f (show 66 ≤ pc by omega), cond_false, xblt_f (show 71 ≤ pc by omega), cond_false, xblt_f (show 74 ≤ pc by omega), cond_false, xblt_f (show 75 ≤ pc by omega), cond_false, xbeq_f (show pc ≠ 75 by omega), cond_false]
set_option maxRecDepth 100000 in
theorem xde_292 : xDe 292 := xDe_of (B := 76) xc_292 rfl xob_292 (by decide +kernel)
theorem xob_293 (pc : Nat) (h : 38 ≤ pc) : xc_293 pc = none := by
  unfold xc_293
  rw [xblt_f (show 20 ≤ pc by omega), cond_false, xblt_f (show 28 ≤ pc by omega), cond_false, xblt_f (show 33 ≤ pc by omega), cond_false, xblt_f (show 36 ≤ pc by omega), cond_false, xblt_f (show 37 ≤ pc by omega), cond_false, xbeq_f (show pc ≠ 37 by omega), cond_false]
set_option maxRecDepth 100000 in
theorem xde_293 : xDe 293 := xDe_of (B := 38) xc_293 rfl xob_293 (by decide +kernel)
theorem xob_294 (pc : Nat) (h : 19 ≤ pc) : xc_294 pc = none := by
  unfold xc_294
  rw [xblt_f (show 8 ≤ pc by omega), cond_false, xblt_f (show 13 ≤ pc by omega), cond_false, xblt_f (show 17 ≤ pc by omega), cond_false, xblt_f (show 18 ≤ pc by omega), cond_false, xbeq_f (show pc ≠ 18 by omega), cond_false]
set_option maxRecDepth 100000 in
theorem xde_294 : xDe 294 := xDe_of (B := 19) xc_294 rfl xob_294 (by decide +kernel)
theorem xob_295 (pc : Nat) (h : 47 ≤ pc) : xc_295 pc = none := by
  unfold xc_295
  rw [xblt_f (show 26 ≤ pc by omega), cond_false, xblt_f (show 32 ≤ pc by omega), cond_false, xblt_f (show 37 ≤ pc by omega), cond_false, xblt_f (show 43 ≤ pc by omega), cond_false, xblt_f (show 46 ≤ pc by omega), cond_false, xbeq_f (show pc ≠ 46 by omega), cond_false]
set_option maxRecDepth 100000 in
theorem xde_295 : xDe 295 := xDe_of (B := 47) xc_295 rfl xob_295 (by decide +kernel)
theorem xob_297 (pc : Nat) (h : 53 ≤ pc) : xc_297 pc = none := by
  unfold xc_297
  rw [xblt_f (show 27 ≤ pc by omega), cond_false, xblt_f (show 40 ≤ pc by omega), cond_false, xblt_f (show 46 ≤ pc by omega), cond_false, xblt_f (show 49 ≤ pc by omega), cond_false, xblt_f (show 51 ≤ pc by omega), cond_false, xblt_f (show 52 ≤ pc by omega), cond_false, xbeq_f (show pc ≠ 52 by omega), cond_false]
set_option maxRecDepth 100000 in
theorem xde_297 : xDe 297 := xDe_of (B := 53) xc_297 rfl xob_297 (by decide +kernel)
theorem xob_298 (pc : Nat) (h : 61 ≤ pc) : xc_298 pc = none := by
  unfold xc_298
  rw [xblt_f (show 32 ≤ pc by omega), cond_false, xblt_f (show 46 ≤ pc by omega), cond_false, xblt_f (show 53 ≤ pc by omega), cond_false, xblt_f (show 56 ≤ pc by omega), cond_false, xblt_f (show 59 ≤ pc by omega), cond_false, xblt_f (show 60 ≤ pc by omega), cond_false, xbeq_f (show pc ≠ 60 by omega), cond_false]
set_option maxRecDepth 100000 in
theorem xde_298 : xDe 298 := xDe_of (B := 61) xc_298 rfl xob_298 (by decide +kernel)
theorem xob_299 (pc : Nat) (h : 11 ≤ pc) : xc_299 pc = none := by
  unfold xc_299
  rw [xblt_f (show 5 ≤ pc by omega), cond_false, xblt_f (show 9 ≤ pc by omega), cond_false, xblt_f (show 10 ≤ pc by omega), cond_false, xbeq_f (show pc ≠ 10 by omega), cond_false]
set_option maxRecDepth 100000 in
theorem xde_299 : xDe 299 := xDe_of (B := 11) xc_299 rfl xob_299 (by decide +kernel)
theorem xob_300 (pc : Nat) (h : 11 ≤ pc) : xc_300 pc = none := by
  unfold xc_300
  rw [xblt_f (show 5 ≤ pc by omega), cond_false, xblt_f (show 9 ≤ pc by omega), cond_false, xblt_f (show 10 ≤ pc by omega), cond_false, xbeq_f (show pc ≠ 10 by omega), cond_false]
set_option maxRecDepth 100000 in
theorem xde_300 : xDe 300 := xDe_of (B := 11) xc_300 rfl xob_300 (by decide +kernel)
theorem xob_301 (pc : Nat) (h : 21 ≤ pc) : xc_301 pc = none := by
  unfold xc_301
  rw [xblt_f (show 7 ≤ pc by omega), cond_false, xblt_f (show 13 ≤ pc by omega), cond_false, xblt_f (show 17 ≤ pc by omega), cond_false, xblt_f (show 20 ≤ pc by omega), cond_false, xbeq_f (show pc ≠ 20 by omega), cond_false]
set_option maxRecDepth 100000 in
theorem xde_301 : xDe 301 := xDe_of (B := 21) xc_301 rfl xob_301 (by decide +kernel)
theorem xob_302 (pc : Nat) (h : 23 ≤ pc) : xc_302 pc = none := by
  unfold xc_302
  rw [xblt_f (show 9 ≤ pc by omega), cond_false, xblt_f (show 15 ≤ pc by omega), cond_false, xblt_f (show 19 ≤ pc by omega), cond_false, xblt_f (show 22 ≤ pc by omega), cond_false, xbeq_f (show pc ≠ 22 by omega), cond_false]
set_option maxRecDepth 100000 in
theorem xde_302 : xDe 302 := xDe_of (B := 23) xc_302 rfl xob_302 (by decide +kernel)
end
