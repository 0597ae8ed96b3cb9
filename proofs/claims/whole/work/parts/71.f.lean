/-! tables against bytes: printed by wip/whole/src/gen71.py -/
set_option maxRecDepth 100000 in
theorem rf_T_158 : rf_T 158 := rf_T_of (n := 80) (rf_tb_lt (n := 5) rfl (by decide)) (by decide +kernel)
theorem rf_mo_158 : rf_mok 158 = true := rf_mok_ok 158 (by decide)
set_option maxRecDepth 100000 in
theorem rf_T_159 : rf_T 159 := rf_T_of (n := 48) (rf_tb_lt (n := 3) rfl (by decide)) (by decide +kernel)
theorem rf_mo_159 : rf_mok 159 = true := rf_mok_ok 159 (by decide)
set_option maxRecDepth 100000 in
theorem rf_T_160 : rf_T 160 := rf_T_of (n := 32) (rf_tb_lt (n := 2) rfl (by decide)) (by decide +kernel)
theorem rf_mo_160 : rf_mok 160 = true := rf_mok_ok 160 (by decide)
set_option maxRecDepth 100000 in
theorem rf_T_161 : rf_T 161 := rf_T_of (n := 144) (rf_tb_lt (n := 9) rfl (by decide)) (by decide +kernel)
theorem rf_mo_161 : rf_mok 161 = true := rf_mok_ok 161 (by decide)
set_option maxRecDepth 100000 in
theorem rf_T_162 : rf_T 162 := rf_T_of (n := 400) (rf_tb_lt (n := 25) rfl (by decide)) (by decide +kernel)
theorem rf_mo_162 : rf_mok 162 = true := rf_mok_ok 162 (by decide)
set_option maxRecDepth 100000 in
theorem rf_T_163 : rf_T 163 := rf_T_of (n := 16) (rf_tb_lt (n := 1) rfl (by decide)) (by decide +kernel)
theorem rf_mo_163 : rf_mok 163 = true := rf_mok_ok 163 (by decide)
set_option maxRecDepth 100000 in
theorem rf_T_164 : rf_T 164 := rf_T_of (n := 16) (rf_tb_lt (n := 1) rfl (by decide)) (by decide +kernel)
theorem rf_mo_164 : rf_mok 164 = true := rf_mok_ok 164 (by decide)
