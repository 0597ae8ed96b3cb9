/-! tables against bytes: printed by wip/whole/src/gen71.py -/
set_option maxRecDepth 100000 in
theorem rf_T_131 : rf_T 131 := rf_T_of (n := 304) (rf_tb_lt (n := 19) rfl (by decide)) (by decide +kernel)
theorem rf_mo_131 : rf_mok 131 = true := rf_mok_ok 131 (by decide)
set_option maxRecDepth 100000 in
theorem rf_T_132 : rf_T 132 := rf_T_of (n := 48) (rf_tb_lt (n := 3) rfl (by decide)) (by decide +kernel)
theorem rf_mo_132 : rf_mok 132 = true := rf_mok_ok 132 (by decide)
set_option maxRecDepth 100000 in
theorem rf_T_133 : rf_T 133 := rf_T_of (n := 96) (rf_tb_lt (n := 6) rfl (by decide)) (by decide +kernel)
theorem rf_mo_133 : rf_mok 133 = true := rf_mok_ok 133 (by decide)
set_option maxRecDepth 100000 in
theorem rf_T_134 : rf_T 134 := rf_T_of (n := 224) (rf_tb_lt (n := 14) rfl (by decide)) (by decide +kernel)
theorem rf_mo_134 : rf_mok 134 = true := rf_mok_ok 134 (by decide)
set_option maxRecDepth 100000 in
theorem rf_T_135 : rf_T 135 := rf_T_of (n := 224) (rf_tb_lt (n := 14) rfl (by decide)) (by decide +kernel)
theorem rf_mo_135 : rf_mok 135 = true := rf_mok_ok 135 (by decide)
set_option maxRecDepth 100000 in
theorem rf_T_136 : rf_T 136 := rf_T_of (n := 32) (rf_tb_lt (n := 2) rfl (by decide)) (by decide +kernel)
theorem rf_mo_136 : rf_mok 136 = true := rf_mok_ok 136 (by decide)
set_option maxRecDepth 100000 in
theorem rf_T_137 : rf_T 137 := rf_T_of (n := 32) (rf_tb_lt (n := 2) rfl (by decide)) (by decide +kernel)
theorem rf_mo_137 : rf_mok 137 = true := rf_mok_ok 137 (by decide)
set_option maxRecDepth 100000 in
theorem rf_T_138 : rf_T 138 := rf_T_of (n := 48) (rf_tb_lt (n := 3) rfl (by decide)) (by decide +kernel)
theorem rf_mo_138 : rf_mok 138 = true := rf_mok_ok 138 (by decide)
set_option maxRecDepth 100000 in
theorem rf_T_139 : rf_T 139 := rf_T_of (n := 32) (rf_tb_lt (n := 2) rfl (by decide)) (by decide +kernel)
theorem rf_mo_139 : rf_mok 139 = true := rf_mok_ok 139 (by decide)
set_option maxRecDepth 100000 in
theorem rf_T_140 : rf_T 140 := rf_T_of (n := 32) (rf_tb_lt (n := 2) rfl (by decide)) (by decide +kernel)
theorem rf_mo_140 : rf_mok 140 = true := rf_mok_ok 140 (by decide)
set_option maxRecDepth 100000 in
theorem rf_T_141 : rf_T 141 := rf_T_of (n := 48) (rf_tb_lt (n := 3) rfl (by decide)) (by decide +kernel)
theorem rf_mo_141 : rf_mok 141 = true := rf_mok_ok 141 (by decide)
set_option maxRecDepth 100000 in
theorem rf_T_142 : rf_T 142 := rf_T_of (n := 32) (rf_tb_lt (n := 2) rfl (by decide)) (by decide +kernel)
theorem rf_mo_142 : rf_mok 142 = true := rf_mok_ok 142 (by decide)
set_option maxRecDepth 100000 in
theorem rf_T_143 : rf_T 143 := rf_T_of (n := 16) (rf_tb_lt (n := 1) rfl (by decide)) (by decide +kernel)
theorem rf_mo_143 : rf_mok 143 = true := rf_mok_ok 143 (by decide)
set_option maxRecDepth 100000 in
theorem rf_T_144 : rf_T 144 := rf_T_of (n := 48) (rf_tb_lt (n := 3) rfl (by decide)) (by decide +kernel)
theorem rf_mo_144 : rf_mok 144 = true := rf_mok_ok 144 (by decide)
set_option maxRecDepth 100000 in
theorem rf_T_145 : rf_T 145 := rf_T_of (n := 80) (rf_tb_lt (n := 5) rfl (by decide)) (by decide +kernel)
theorem rf_mo_145 : rf_mok 145 = true := rf_mok_ok 145 (by decide)
set_option maxRecDepth 100000 in
theorem rf_T_146 : rf_T 146 := rf_T_of (n := 32) (rf_tb_lt (n := 2) rfl (by decide)) (by decide +kernel)
theorem rf_mo_146 : rf_mok 146 = true := rf_mok_ok 146 (by decide)
set_option maxRecDepth 100000 in
theorem rf_T_147 : rf_T 147 := rf_T_of (n := 128) (rf_tb_lt (n := 8) rfl (by decide)) (by decide +kernel)
theorem rf_mo_147 : rf_mok 147 = true := rf_mok_ok 147 (by decide)
set_option maxRecDepth 100000 in
theorem rf_T_148 : rf_T 148 := rf_T_of (n := 112) (rf_tb_lt (n := 7) rfl (by decide)) (by decide +kernel)
theorem rf_mo_148 : rf_mok 148 = true := rf_mok_ok 148 (by decide)
set_option maxRecDepth 100000 in
theorem rf_T_149 : rf_T 149 := rf_T_of (n := 128) (rf_tb_lt (n := 8) rfl (by decide)) (by decide +kernel)
theorem rf_mo_149 : rf_mok 149 = true := rf_mok_ok 149 (by decide)
set_option maxRecDepth 100000 in
theorem rf_T_150 : rf_T 150 := rf_T_of (n := 128) (rf_tb_lt (n := 8) rfl (by decide)) (by decide +kernel)
theorem rf_mo_150 : rf_mok 150 = true := rf_mok_ok 150 (by decide)
set_option maxRecDepth 100000 in
theorem rf_T_151 : rf_T 151 := rf_T_of (n := 128) (rf_tb_lt (n := 8) rfl (by decide)) (by decide +kernel)
theorem rf_mo_151 : rf_mok 151 = true := rf_mok_ok 151 (by decide)
set_option maxRecDepth 100000 in
theorem rf_T_152 : rf_T 152 := rf_T_of (n := 80) (rf_tb_lt (n := 5) rfl (by decide)) (by decide +kernel)
theorem rf_mo_152 : rf_mok 152 = true := rf_mok_ok 152 (by decide)
set_option maxRecDepth 100000 in
theorem rf_T_153 : rf_T 153 := rf_T_of (n := 64) (rf_tb_lt (n := 4) rfl (by decide)) (by decide +kernel)
theorem rf_mo_153 : rf_mok 153 = true := rf_mok_ok 153 (by decide)
set_option maxRecDepth 100000 in
theorem rf_T_154 : rf_T 154 := rf_T_of (n := 112) (rf_tb_lt (n := 7) rfl (by decide)) (by decide +kernel)
theorem rf_mo_154 : rf_mok 154 = true := rf_mok_ok 154 (by decide)
set_option maxRecDepth 100000 in
theorem rf_T_155 : rf_T 155 := rf_T_of (n := 128) (rf_tb_lt (n := 8) rfl (by decide)) (by decide +kernel)
theorem rf_mo_155 : rf_mok 155 = true := rf_mok_ok 155 (by decide)
set_option maxRecDepth 100000 in
theorem rf_T_156 : rf_T 156 := rf_T_of (n := 32) (rf_tb_lt (n := 2) rfl (by decide)) (by decide +kernel)
theorem rf_mo_156 : rf_mok 156 = true := rf_mok_ok 156 (by decide)
set_option maxRecDepth 100000 in
theorem rf_T_157 : rf_T 157 := rf_T_of (n := 112) (rf_tb_lt (n := 7) rfl (by decide)) (by decide +kernel)
theorem rf_mo_157 : rf_mok 157 = true := rf_mok_ok 157 (by decide)
