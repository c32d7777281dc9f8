/-! the code tables are the bytes, on (printed by wip/tools/mk26.py) -/
noncomputable section
set_option maxRecDepth 100000 in
theorem xlw_6 : (List.range 60).all (fun j => xdk 296 xc_296 (360 + j)) = true := by decide +kernel
set_option maxRecDepth 100000 in
theorem xlw_7 : (List.range 60).all (fun j => xdk 296 xc_296 (420 + j)) = true := by decide +kernel
set_option maxRecDepth 100000 in
theorem xlw_8 : (List.range 60).all (fun j => xdk 296 xc_296 (480 + j)) = true := by decide +kernel
set_option maxRecDepth 100000 in
theorem xlw_9 : (List.range 60).all (fun j => xdk 296 xc_296 (540 + j)) = true := by decide +kernel
set_option maxRecDepth 100000 in
theorem xlw_10 : (List.range 60).all (fun j => xdk 296 xc_296 (600 + j)) = true := by decide +kernel
set_option maxRecDepth 100000 in
theorem xlw_11 : (List.range 60).all (fun j => xdk 296 xc_296 (660 + j)) = true := by decide +kernel
end
