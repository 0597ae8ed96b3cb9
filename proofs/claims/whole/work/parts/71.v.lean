/-! the law's table, on -/
set_option maxRecDepth 100000 in
theorem rf_Tl_44 : rf_okp 165 44 = true := by decide +kernel
set_option maxRecDepth 100000 in
theorem rf_Tl_45 : rf_okp 165 45 = true := by decide +kernel
set_option maxRecDepth 100000 in
theorem rf_Tl_46 : rf_okp 165 46 = true := by decide +kernel
set_option maxRecDepth 100000 in
theorem rf_Tl_47 : rf_okp 165 47 = true := by decide +kernel
set_option maxRecDepth 100000 in
theorem rf_Tl_48 : rf_okp 165 48 = true := by decide +kernel
set_option maxRecDepth 100000 in
theorem rf_Tl_49 : rf_okp 165 49 = true := by decide +kernel
set_option maxRecDepth 100000 in
theorem rf_Tl_50 : rf_okp 165 50 = true := by decide +kernel
set_option maxRecDepth 100000 in
theorem rf_Tl_51 : rf_okp 165 51 = true := by decide +kernel
set_option maxRecDepth 100000 in
theorem rf_Tl_52 : rf_okp 165 52 = true := by decide +kernel
set_option maxRecDepth 100000 in
theorem rf_Tl_53 : rf_okp 165 53 = true := by decide +kernel
set_option maxRecDepth 100000 in
theorem rf_Tl_54 : rf_okp 165 54 = true := by decide +kernel
set_option maxRecDepth 100000 in
theorem rf_Tl_55 : rf_okp 165 55 = true := by decide +kernel
set_option maxRecDepth 100000 in
theorem rf_Tl_56 : rf_okp 165 56 = true := by decide +kernel
set_option maxRecDepth 100000 in
theorem rf_Tl_57 : rf_okp 165 57 = true := by decide +kernel
set_option maxRecDepth 100000 in
theorem rf_Tl_58 : rf_okp 165 58 = true := by decide +kernel
set_option maxRecDepth 100000 in
theorem rf_Tl_59 : rf_okp 165 59 = true := by decide +kernel
set_option maxRecDepth 100000 in
theorem rf_Tl_60 : rf_okp 165 60 = true := by decide +kernel
set_option maxRecDepth 100000 in
theorem rf_Tl_61 : rf_okp 165 61 = true := by decide +kernel
set_option maxRecDepth 100000 in
theorem rf_Tl_62 : rf_okp 165 62 = true := by decide +kernel
set_option maxRecDepth 100000 in
theorem rf_Tl_63 : rf_okp 165 63 = true := by decide +kernel
set_option maxRecDepth 100000 in
theorem rf_Tl_64 : rf_okp 165 64 = true := by decide +kernel
set_option maxRecDepth 100000 in
theorem rf_Tl_65 : rf_okp 165 65 = true := by decide +kernel
