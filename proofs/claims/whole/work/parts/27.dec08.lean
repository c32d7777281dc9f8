/-! the code tables are the bytes, on (printed by wip/tools/mk26.py) -/
noncomputable section
set_option maxRecDepth 100000 in
theorem xlw_0 : (List.range 60).all (fun j => xdk 296 xc_296 (0 + j)) = true := by decide +kernel
set_option maxRecDepth 100000 in
theorem xlw_1 : (List.range 60).all (fun j => xdk 296 xc_296 (60 + j)) = true := by decide +kernel
set_option maxRecDepth 100000 in
theorem xlw_2 : (List.range 60).all (fun j => xdk 296 xc_296 (120 + j)) = true := by decide +kernel
set_option maxRecDepth 100000 in
theorem xlw_3 : (List.range 60).all (fun j => xdk 296 xc_296 (180 + j)) = true := by decide +kernel
set_option maxRecDepth 100000 in
theorem xlw_4 : (List.range 60).all (fun j => xdk 296 xc_296 (240 + j)) = true := by decide +kernel
set_option maxRecDepth 100000 in
theorem xlw_5 : (List.range 60).all (fun j => xdk 296 xc_296 (300 + j)) = true := by decide +kernel
end
