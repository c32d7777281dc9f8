/-! the code tables are the bytes, on (printed by wip/tools/mk26.py) -/
noncomputable section
set_option maxRecDepth 100000 in
theorem xlw_36 : (List.range 58).all (fun j => xdk 296 xc_296 (2160 + j)) = true := by decide +kernel
theorem xob_296 (pc : Nat) (h : 2218 ≤ pc) : xc_296 pc = none := by
  unfold xc_296
  rw [xblt_f (show 1265 ≤ pc by omega), cond_false, xblt_f (show 1757 ≤ pc by omega), cond_false, xblt_f (show 1988 ≤ pc by omega), cond_false, xblt_f (show 2104 ≤ pc by omega), cond_false, xblt_f (show 2160 ≤ pc by omega), cond_false, xblt_f (show 2186 ≤ pc by omega), cond_false, xblt_f (show 2198 ≤ pc by omega), cond_false, xblt_f (show 2208 ≤ pc by omega), cond_false, xblt_f (show 2213 ≤ pc by omega), cond_false, xblt_f (show 2216 ≤ pc by omega), cond_false, xblt_f (show 2217 ≤ pc by omega), cond_false, xbeq_f (show pc ≠ 2217 by omega), cond_false]
theorem xde_296 : xDe 296 := by
  refine xDe_of (B := 2218) xc_296 rfl xob_296 (List.all_eq_true.mpr (fun pc hpc => ?_))
  have hlt := List.mem_range.mp hpc
  rcases Nat.lt_or_ge pc 60 with q | q
  · have h := List.all_eq_true.mp xlw_0 (pc - 0) (List.mem_range.mpr (by omega))
    rw [show 0 + (pc - 0) = pc by omega] at h
    exact h
  rcases Nat.lt_or_ge pc 120 with q | q
  · have h := List.all_eq_true.mp xlw_1 (pc - 60) (List.mem_range.mpr (by omega))
    rw [show 60 + (pc - 60) = pc by omega] at h
    exact h
  rcases Nat.lt_or_ge pc 180 with q | q
  · have h := List.all_eq_true.mp xlw_2 (pc - 120) (List.mem_range.mpr (by omega))
    rw [show 120 + (pc - 120) = pc by omega] at h
    exact h
  rcases Nat.lt_or_ge pc 240 with q | q
  · have h := List.all_eq_true.mp xlw_3 (pc - 180) (List.mem_range.mpr (by omega))
    rw [show 180 + (pc - 180) = pc by omega] at h
    exact h
  rcases Nat.lt_or_ge pc 300 with q | q
  · have h := List.all_eq_true.mp xlw_4 (pc - 240) (List.mem_range.mpr (by omega))
    rw [show 240 + (pc - 240) = pc by omega] at h
    exact h
  rcases Nat.lt_or_ge pc 360 with q | q
  · have h := List.all_eq_true.mp xlw_5 (pc - 300) (List.mem_range.mpr (by omega))
    rw [show 300 + (pc - 300) = pc by omega] at h
    exact h
  rcases Nat.lt_or_ge pc 420 with q | q
  · have h := List.all_eq_true.mp xlw_6 (pc - 360) (List.mem_range.mpr (by omega))
    rw [show 360 + (pc - 360) = pc by omega] at h
    exact h
  rcases Nat.lt_or_ge pc 480 with q | q
  · have h := List.all_eq_true.mp xlw_7 (pc - 420) (List.mem_range.mpr (by omega))
    rw [show 420 + (pc - 420) = pc by omega] at h
    exact h
  rcases Nat.lt_or_ge pc 540 with q | q
  · have h := List.all_eq_true.mp xlw_8 (pc - 480) (List.mem_range.mpr (by omega))
    rw [show 480 + (pc - 480) = pc by omega] at h
    exact h
  rcases Nat.lt_or_ge pc 600 with q | q
  · have h := List.all_eq_true.mp xlw_9 (pc - 540) (List.mem_range.mpr (by omega))
    rw [show 540 + (pc - 540) = pc by omega] at h
    exact h
  rcases Nat.lt_or_ge pc 660 with q | q
  · have h := List.all_eq_true.mp xlw_10 (pc - 600) (List.mem_range.mpr (by omega))
    rw [show 600 + (pc - 600) = pc by omega] at h
    exact h
  rcases Nat.lt_or_ge pc 720 with q | q
  · have h := List.all_eq_true.mp xlw_11 (pc - 660) (List.mem_range.mpr (by omega))
    rw [show 660 + (pc - 660) = pc by omega] at h
    exact h
  rcases Nat.lt_or_ge pc 780 with q | q
  · have h := List.all_eq_true.mp xlw_12 (pc - 720) (List.mem_range.mpr (by omega))
    rw [show 720 + (pc - 720) = pc by omega] at h
    exact h
  rcases Nat.lt_or_ge pc 840 with q | q
  · have h := List.all_eq_true.mp xlw_13 (pc - 780) (List.mem_range.mpr (by omega))
    rw [show 780 + (pc - 780) = pc by omega] at h
    exact h
  rcases Nat.lt_or_ge pc 900 with q | q
  · have h := List.all_eq_true.mp xlw_14 (pc - 840) (List.mem_range.mpr (by omega))
    rw [show 840 + (pc - 840) = pc by omega] at h
    exact h
  rcases Nat.lt_or_ge pc 960 with q | q
  · have h := List.all_eq_true.mp xlw_15 (pc - 900) (List.mem_range.mpr (by omega))
    rw [show 900 + (pc - 900) = pc by omega] at h
    exact h
  rcases Nat.lt_or_ge pc 1020 with q | q
  · have h := List.all_eq_true.mp xlw_16 (pc - 960) (List.mem_range.mpr (by omega))
    rw [show 960 + (pc - 960) = pc by omega] at h
    exact h
  rcases Nat.lt_or_ge pc 1080 with q | q
  · have h := List.all_eq_true.mp xlw_17 (pc - 1020) (List.mem_range.mpr (by omega))
    rw [show 1020 + (pc - 1020) = pc by omega] at h
    exact h
  rcases Nat.lt_or_ge pc 1140 with q | q
  · have h := List.all_eq_true.mp xlw_18 (pc - 1080) (List.mem_range.mpr (by omega))
    rw [show 1080 + (pc - 1080) = pc by omega] at h
    exact h
  rcases Nat.lt_or_ge pc 1200 with q | q
  · have h := List.all_eq_true.mp xlw_19 (pc - 1140) (List.mem_range.mpr (by omega))
    rw [show 1140 + (pc - 1140) = pc by omega] at h
    exact h
  rcases Nat.lt_or_ge pc 1260 with q | q
  · have h := List.all_eq_true.mp xlw_20 (pc - 1200) (List.mem_range.mpr (by omega))
    rw [show 1200 + (pc - 1200) = pc by omega] at h
    exact h
  rcases Nat.lt_or_ge pc 1320 with q | q
  · have h := List.all_eq_true.mp xlw_21 (pc - 1260) (List.mem_range.mpr (by omega))
    rw [show 1260 + (pc - 1260) = pc by omega] at h
    exact h
  rcases Nat.lt_or_ge pc 1380 with q | q
  · have h := List.all_eq_true.mp xlw_22 (pc - 1320) (List.mem_range.mpr (by omega))
    rw [show 1320 + (pc - 1320) = pc by omega] at h
    exact h
  rcases Nat.lt_or_ge pc 1440 with q | q
  · have h := List.all_eq_true.mp xlw_23 (pc - 1380) (List.mem_range.mpr (by omega))
    rw [show 1380 + (pc - 1380) = pc by omega] at h
    exact h
  rcases Nat.lt_or_ge pc 1500 with q | q
  · have h := List.all_eq_true.mp xlw_24 (pc - 1440) (List.mem_range.mpr (by omega))
    rw [show 1440 + (pc - 1440) = pc by omega] at h
    exact h
  rcases Nat.lt_or_ge pc 1560 with q | q
  · have h := List.all_eq_true.mp xlw_25 (pc - 1500) (List.mem_range.mpr (by omega))
    rw [show 1500 + (pc - 1500) = pc by omega] at h
    exact h
  rcases Nat.lt_or_ge pc 1620 with q | q
  · have h := List.all_eq_true.mp xlw_26 (pc - 1560) (List.mem_range.mpr (by omega))
    rw [show 1560 + (pc - 1560) = pc by omega] at h
    exact h
  rcases Nat.lt_or_ge pc 1680 with q | q
  · have h := List.all_eq_true.mp xlw_27 (pc - 1620) (List.mem_range.mpr (by omega))
    rw [show 1620 + (pc - 1620) = pc by omega] at h
    exact h
  rcases Nat.lt_or_ge pc 1740 with q | q
  · have h := List.all_eq_true.mp xlw_28 (pc - 1680) (List.mem_range.mpr (by omega))
    rw [show 1680 + (pc - 1680) = pc by omega] at h
    exact h
  rcases Nat.lt_or_ge pc 1800 with q | q
  · have h := List.all_eq_true.mp xlw_29 (pc - 1740) (List.mem_range.mpr (by omega))
    rw [show 1740 + (pc - 1740) = pc by omega] at h
    exact h
  rcases Nat.lt_or_ge pc 1860 with q | q
  · have h := List.all_eq_true.mp xlw_30 (pc - 1800) (List.mem_range.mpr (by omega))
    rw [show 1800 + (pc - 1800) = pc by omega] at h
    exact h
  rcases Nat.lt_or_ge pc 1920 with q | q
  · have h := List.all_eq_true.mp xlw_31 (pc - 1860) (List.mem_range.mpr (by omega))
    rw [show 1860 + (pc - 1860) = pc by omega] at h
    exact h
  rcases Nat.lt_or_ge pc 1980 with q | q
  · have h := List.all_eq_true.mp xlw_32 (pc - 1920) (List.mem_range.mpr (by omega))
    rw [show 1920 + (pc - 1920) = pc by omega] at h
    exact h
  rcases Nat.lt_or_ge pc 2040 with q | q
  · have h := List.all_eq_true.mp xlw_33 (pc - 1980) (List.mem_range.mpr (by omega))
    rw [show 1980 + (pc - 1980) = pc by omega] at h
    exact h
  rcases Nat.lt_or_ge pc 2100 with q | q
  · have h := List.all_eq_true.mp xlw_34 (pc - 2040) (List.mem_range.mpr (by omega))
    rw [show 2040 + (pc - 2040) = pc by omega] at h
    exact h
  rcases Nat.lt_or_ge pc 2160 with q | q
  · have h := List.all_eq_true.mp xlw_35 (pc - 2100) (List.mem_range.mpr (by omega))
    rw [show 2100 + (pc - 2100) = pc by omega] at h
    exact h
  rcases Nat.lt_or_ge pc 2218 with q | q
  · have h := List.all_eq_true.mp xlw_36 (pc - 2160) (List.mem_range.mpr (by omega))
    rw [show 2160 + (pc - 2160) = pc by omega] at h
    exact h
  omega
end
