/-! the code tables are the bytes, on (printed by wip/tools/mk26.py) -/
noncomputable section
set_option maxRecDepth 100000 in
theorem xlw_24 : (List.range 60).all (fun j => xdk 296 xc_296 (1440 + j)) = true := by decide +kernel
set_option maxRecDepth 100000 in
theorem xlw_25 : (List.range 60).all (fun j => xdk 296 xc_296 (1500 + j)) = true := by decide +kernel
set_option maxRecDepth 100000 in
theorem xlw_26 : (List.range 60).all (fun j => xdk 296 xc_296 (1560 + j)) = true := by decide +kernel
set_option maxRecDepth 100000 in
theorem xlw_27 : (List.range 60).all (fun j => xdk 296 xc_296 (1620 + j)) = true := by decide +kernel
set_option maxRecDepth 100000 in
theorem xlw_28 : (List.range 60).all (fun j => xdk 296 xc_296 (1680 + j)) = true := by decide +kernel
set_option maxRecDepth 100000 in
theorem xlw_29 : (List.range 60).all (fun j => xdk 296 xc_296 (1740 + j)) = true := by decide +kernel
end
