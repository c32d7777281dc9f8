/-! the code tables are the bytes, on (printed by wip/tools/mk26.py) -/
noncomputable section
set_option maxRecDepth 100000 in
theorem xlw_12 : (List.range 60).all (fun j => xdk 296 xc_296 (720 + j)) = true := by decide +kernel
set_option maxRecDepth 100000 in
theorem xlw_13 : (List.range 60).all (fun j => xdk 296 xc_296 (780 + j)) = true := by decide +kernel
set_option maxRecDepth 100000 in
theorem xlw_14 : (List.range 60).all (fun j => xdk 296 xc_296 (840 + j)) = true := by decide +kernel
set_option maxRecDepth 100000 in
theorem xlw_15 : (List.range 60).all (fun j => xdk 296 xc_296 (900 + j)) = true := by decide +kernel
set_option maxRecDepth 100000 in
theorem xlw_16 : (List.range 60).all (fun j => xdk 296 xc_296 (960 + j)) = true := by decide +kernel
set_option maxRecDepth 100000 in
theorem xlw_17 : (List.range 60).all (fun j => xdk 296 xc_296 (1020 + j)) = true := by decide +kernel
end
