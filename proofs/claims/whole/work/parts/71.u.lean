/-! the law's table, on -/
set_option maxRecDepth 100000 in
theorem rf_Tl_22 : rf_okp 165 22 = true := by decide +kernel
set_option maxRecDepth 100000 in
theorem rf_Tl_23 : rf_okp 165 23 = true := by decide +kernel
set_option maxRecDepth 100000 in
theorem rf_Tl_24 : rf_okp 165 24 = true := by decide +kernel
set_option maxRecDepth 100000 in
theorem rf_Tl_25 : rf_okp 165 25 = true := by decide +kernel
set_option maxRecDepth 100000 in
theorem rf_Tl_26 : rf_okp 165 26 = true := by decide +kernel
set_option maxRecDepth 100000 in
theorem rf_Tl_27 : rf_okp 165 27 = true := by decide +kernel
set_option maxRecDepth 100000 in
theorem rf_Tl_28 : rf_okp 165 28 = true := by decide +kernel
set_option maxRecDepth 100000 in
theorem rf_Tl_29 : rf_okp 165 29 = true := by decide +kernel
set_option maxRecDepth 100000 in
theorem rf_Tl_30 : rf_okp 165 30 = true := by decide +kernel
set_option maxRecDepth 100000 in
theorem rf_Tl_31 : rf_okp 165 31 = true := by decide +kernel
set_option maxRecDepth 100000 in
theorem rf_Tl_32 : rf_okp 165 32 = true := by decide +kernel
set_option maxRecDepth 100000 in
theorem rf_Tl_33 : rf_okp 165 33 = true := by decide +kernel
set_option maxRecDepth 100000 in
theorem rf_Tl_34 : rf_okp 165 34 = true := by decide +kernel
set_option maxRecDepth 100000 in
theorem rf_Tl_35 : rf_okp 165 35 = true := by decide +kernel
set_option maxRecDepth 100000 in
theorem rf_Tl_36 : rf_okp 165 36 = true := by decide +kernel
set_option maxRecDepth 100000 in
theorem rf_Tl_37 : rf_okp 165 37 = true := by decide +kernel
set_option maxRecDepth 100000 in
theorem rf_Tl_38 : rf_okp 165 38 = true := by decide +kernel
set_option maxRecDepth 100000 in
theorem rf_Tl_39 : rf_okp 165 39 = true := by decide +kernel
set_option maxRecDepth 100000 in
theorem rf_Tl_40 : rf_okp 165 40 = true := by decide +kernel
set_option maxRecDepth 100000 in
theorem rf_Tl_41 : rf_okp 165 41 = true := by decide +kernel
set_option maxRecDepth 100000 in
theorem rf_Tl_42 : rf_okp 165 42 = true := by decide +kernel
set_option maxRecDepth 100000 in
theorem rf_Tl_43 : rf_okp 165 43 = true := by decide +kernel
