/-! tables against bytes: printed by wip/whole/src/gen71.py -/
set_option maxRecDepth 100000 in
theorem rf_T_64 : rf_T 64 := rf_T_of (n := 48) (rf_tb_lt (n := 3) rfl (by decide)) (by decide +kernel)
theorem rf_mo_64 : rf_mok 64 = true := rf_mok_ok 64 (by decide)
set_option maxRecDepth 100000 in
theorem rf_T_65 : rf_T 65 := rf_T_of (n := 16) (rf_tb_lt (n := 1) rfl (by decide)) (by decide +kernel)
theorem rf_mo_65 : rf_mok 65 = true := rf_mok_ok 65 (by decide)
set_option maxRecDepth 100000 in
theorem rf_T_66 : rf_T 66 := rf_T_of (n := 64) (rf_tb_lt (n := 4) rfl (by decide)) (by decide +kernel)
theorem rf_mo_66 : rf_mok 66 = true := rf_mok_ok 66 (by decide)
set_option maxRecDepth 100000 in
theorem rf_T_67 : rf_T 67 := rf_T_of (n := 16) (rf_tb_lt (n := 1) rfl (by decide)) (by decide +kernel)
theorem rf_mo_67 : rf_mok 67 = true := rf_mok_ok 67 (by decide)
set_option maxRecDepth 100000 in
theorem rf_T_68 : rf_T 68 := rf_T_of (n := 16) (rf_tb_lt (n := 1) rfl (by decide)) (by decide +kernel)
theorem rf_mo_68 : rf_mok 68 = true := rf_mok_ok 68 (by decide)
set_option maxRecDepth 100000 in
theorem rf_T_69 : rf_T 69 := rf_T_of (n := 32) (rf_tb_lt (n := 2) rfl (by decide)) (by decide +kernel)
theorem rf_mo_69 : rf_mok 69 = true := rf_mok_ok 69 (by decide)
set_option maxRecDepth 100000 in
theorem rf_T_70 : rf_T 70 := rf_T_of (n := 80) (rf_tb_lt (n := 5) rfl (by decide)) (by decide +kernel)
theorem rf_mo_70 : rf_mok 70 = true := rf_mok_ok 70 (by decide)
set_option maxRecDepth 100000 in
theorem rf_T_71 : rf_T 71 := rf_T_of (n := 224) (rf_tb_lt (n := 14) rfl (by decide)) (by decide +kernel)
theorem rf_mo_71 : rf_mok 71 = true := rf_mok_ok 71 (by decide)
set_option maxRecDepth 100000 in
theorem rf_T_72 : rf_T 72 := rf_T_of (n := 64) (rf_tb_lt (n := 4) rfl (by decide)) (by decide +kernel)
theorem rf_mo_72 : rf_mok 72 = true := rf_mok_ok 72 (by decide)
set_option maxRecDepth 100000 in
theorem rf_T_73 : rf_T 73 := rf_T_of (n := 48) (rf_tb_lt (n := 3) rfl (by decide)) (by decide +kernel)
theorem rf_mo_73 : rf_mok 73 = true := rf_mok_ok 73 (by decide)
set_option maxRecDepth 100000 in
theorem rf_T_74 : rf_T 74 := rf_T_of (n := 48) (rf_tb_lt (n := 3) rfl (by decide)) (by decide +kernel)
theorem rf_mo_74 : rf_mok 74 = true := rf_mok_ok 74 (by decide)
set_option maxRecDepth 100000 in
theorem rf_T_75 : rf_T 75 := rf_T_of (n := 48) (rf_tb_lt (n := 3) rfl (by decide)) (by decide +kernel)
theorem rf_mo_75 : rf_mok 75 = true := rf_mok_ok 75 (by decide)
set_option maxRecDepth 100000 in
theorem rf_T_76 : rf_T 76 := rf_T_of (n := 96) (rf_tb_lt (n := 6) rfl (by decide)) (by decide +kernel)
theorem rf_mo_76 : rf_mok 76 = true := rf_mok_ok 76 (by decide)
set_option maxRecDepth 100000 in
theorem rf_T_77 : rf_T 77 := rf_T_of (n := 80) (rf_tb_lt (n := 5) rfl (by decide)) (by decide +kernel)
theorem rf_mo_77 : rf_mok 77 = true := rf_mok_ok 77 (by decide)
set_option maxRecDepth 100000 in
theorem rf_T_78 : rf_T 78 := rf_T_of (n := 144) (rf_tb_lt (n := 9) rfl (by decide)) (by decide +kernel)
theorem rf_mo_78 : rf_mok 78 = true := rf_mok_ok 78 (by decide)
set_option maxRecDepth 100000 in
theorem rf_T_79 : rf_T 79 := rf_T_of (n := 112) (rf_tb_lt (n := 7) rfl (by decide)) (by decide +kernel)
theorem rf_mo_79 : rf_mok 79 = true := rf_mok_ok 79 (by decide)
set_option maxRecDepth 100000 in
theorem rf_T_80 : rf_T 80 := rf_T_of (n := 80) (rf_tb_lt (n := 5) rfl (by decide)) (by decide +kernel)
theorem rf_mo_80 : rf_mok 80 = true := rf_mok_ok 80 (by decide)
set_option maxRecDepth 100000 in
theorem rf_T_81 : rf_T 81 := rf_T_of (n := 64) (rf_tb_lt (n := 4) rfl (by decide)) (by decide +kernel)
theorem rf_mo_81 : rf_mok 81 = true := rf_mok_ok 81 (by decide)
set_option maxRecDepth 100000 in
theorem rf_T_82 : rf_T 82 := rf_T_of (n := 96) (rf_tb_lt (n := 6) rfl (by decide)) (by decide +kernel)
theorem rf_mo_82 : rf_mok 82 = true := rf_mok_ok 82 (by decide)
set_option maxRecDepth 100000 in
theorem rf_T_83 : rf_T 83 := rf_T_of (n := 32) (rf_tb_lt (n := 2) rfl (by decide)) (by decide +kernel)
theorem rf_mo_83 : rf_mok 83 = true := rf_mok_ok 83 (by decide)
set_option maxRecDepth 100000 in
theorem rf_T_84 : rf_T 84 := rf_T_of (n := 96) (rf_tb_lt (n := 6) rfl (by decide)) (by decide +kernel)
theorem rf_mo_84 : rf_mok 84 = true := rf_mok_ok 84 (by decide)
set_option maxRecDepth 100000 in
theorem rf_T_85 : rf_T 85 := rf_T_of (n := 64) (rf_tb_lt (n := 4) rfl (by decide)) (by decide +kernel)
theorem rf_mo_85 : rf_mok 85 = true := rf_mok_ok 85 (by decide)
set_option maxRecDepth 100000 in
theorem rf_T_86 : rf_T 86 := rf_T_of (n := 48) (rf_tb_lt (n := 3) rfl (by decide)) (by decide +kernel)
theorem rf_mo_86 : rf_mok 86 = true := rf_mok_ok 86 (by decide)
set_option maxRecDepth 100000 in
theorem rf_T_87 : rf_T 87 := rf_T_of (n := 64) (rf_tb_lt (n := 4) rfl (by decide)) (by decide +kernel)
theorem rf_mo_87 : rf_mok 87 = true := rf_mok_ok 87 (by decide)
set_option maxRecDepth 100000 in
theorem rf_T_88 : rf_T 88 := rf_T_of (n := 224) (rf_tb_lt (n := 14) rfl (by decide)) (by decide +kernel)
theorem rf_mo_88 : rf_mok 88 = true := rf_mok_ok 88 (by decide)
set_option maxRecDepth 100000 in
theorem rf_T_89 : rf_T 89 := rf_T_of (n := 224) (rf_tb_lt (n := 14) rfl (by decide)) (by decide +kernel)
theorem rf_mo_89 : rf_mok 89 = true := rf_mok_ok 89 (by decide)
set_option maxRecDepth 100000 in
theorem rf_T_90 : rf_T 90 := rf_T_of (n := 160) (rf_tb_lt (n := 10) rfl (by decide)) (by decide +kernel)
theorem rf_mo_90 : rf_mok 90 = true := rf_mok_ok 90 (by decide)
