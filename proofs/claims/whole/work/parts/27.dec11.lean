/-! the code tables are the bytes, on (printed by wip/tools/mk26.py) -/
noncomputable section
set_option maxRecDepth 100000 in
theorem xlw_18 : (List.range 60).all (fun j => xdk 296 xc_296 (1080 + j)) = true := by decide +kernel
set_option maxRecDepth 100000 in
theorem xlw_19 : (List.range 60).all (fun j => xdk 296 xc_296 (1140 + j)) = true := by decide +kernel
set_option maxRecDepth 100000 in
theorem xlw_20 : (List.range 60).all (fun j => xdk 296 xc_296 (1200 + j)) = true := by decide +kernel
set_option maxRecDepth 100000 in
theorem xlw_21 : (List.range 60).all (fun j => xdk 296 xc_296 (1260 + j)) = true := by decide +kernel
set_option maxRecDepth 100000 in
theorem xlw_22 : (List.range 60).all (fun j => xdk 296 xc_296 (1320 + j)) = true := by decide +kernel
set_option maxRecDepth 100000 in
theorem xlw_23 : (List.range 60).all (fun j => xdk 296 xc_296 (1380 + j)) = true := by decide +kernel
end
