/-! the code tables are the bytes, on (printed by wip/tools/mk26.py) -/
noncomputable section
set_option maxRecDepth 100000 in
theorem xlw_30 : (List.range 60).all (fun j => xdk 296 xc_296 (1800 + j)) = true := by decide +kernel
set_option maxRecDepth 100000 in
theorem xlw_31 : (List.range 60).all (fun j => xdk 296 xc_296 (1860 + j)) = true := by decide +kernel
set_option maxRecDepth 100000 in
theorem xlw_32 : (List.range 60).all (fun j => xdk 296 xc_296 (1920 + j)) = true := by decide +kernel
set_option maxRecDepth 100000 in
theorem xlw_33 : (List.range 60).all (fun j => xdk 296 xc_296 (1980 + j)) = true := by decide +kernel
set_option maxRecDepth 100000 in
theorem xlw_34 : (List.range 60).all (fun j => xdk 296 xc_296 (2040 + j)) = true := by decide +kernel
set_option maxRecDepth 100000 in
theorem xlw_35 : (List.range 60).all (fun j => xdk 296 xc_296 (2100 + j)) = true := by decide +kernel
end
