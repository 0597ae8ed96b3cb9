/-! tables against bytes: printed by wip/whole/src/gen71.py -/
set_option maxRecDepth 100000 in
theorem rf_T_91 : rf_T 91 := rf_T_of (n := 16) (rf_tb_lt (n := 1) rfl (by decide)) (by decide +kernel)
theorem rf_mo_91 : rf_mok 91 = true := rf_mok_ok 91 (by decide)
set_option maxRecDepth 100000 in
theorem rf_T_92 : rf_T 92 := rf_T_of (n := 16) (rf_tb_lt (n := 1) rfl (by decide)) (by decide +kernel)
theorem rf_mo_92 : rf_mok 92 = true := rf_mok_ok 92 (by decide)
set_option maxRecDepth 100000 in
theorem rf_T_93 : rf_T 93 := rf_T_of (n := 32) (rf_tb_lt (n := 2) rfl (by decide)) (by decide +kernel)
theorem rf_mo_93 : rf_mok 93 = true := rf_mok_ok 93 (by decide)
set_option maxRecDepth 100000 in
theorem rf_T_94 : rf_T 94 := rf_T_of (n := 96) (rf_tb_lt (n := 6) rfl (by decide)) (by decide +kernel)
theorem rf_mo_94 : rf_mok 94 = true := rf_mok_ok 94 (by decide)
set_option maxRecDepth 100000 in
theorem rf_T_95 : rf_T 95 := rf_T_of (n := 32) (rf_tb_lt (n := 2) rfl (by decide)) (by decide +kernel)
theorem rf_mo_95 : rf_mok 95 = true := rf_mok_ok 95 (by decide)
set_option maxRecDepth 100000 in
theorem rf_T_96 : rf_T 96 := rf_T_of (n := 112) (rf_tb_lt (n := 7) rfl (by decide)) (by decide +kernel)
theorem rf_mo_96 : rf_mok 96 = true := rf_mok_ok 96 (by decide)
set_option maxRecDepth 100000 in
theorem rf_T_97 : rf_T 97 := rf_T_of (n := 32) (rf_tb_lt (n := 2) rfl (by decide)) (by decide +kernel)
theorem rf_mo_97 : rf_mok 97 = true := rf_mok_ok 97 (by decide)
set_option maxRecDepth 100000 in
theorem rf_T_98 : rf_T 98 := rf_T_of (n := 16) (rf_tb_lt (n := 1) rfl (by decide)) (by decide +kernel)
theorem rf_mo_98 : rf_mok 98 = true := rf_mok_ok 98 (by decide)
set_option maxRecDepth 100000 in
theorem rf_T_99 : rf_T 99 := rf_T_of (n := 80) (rf_tb_lt (n := 5) rfl (by decide)) (by decide +kernel)
theorem rf_mo_99 : rf_mok 99 = true := rf_mok_ok 99 (by decide)
set_option maxRecDepth 100000 in
theorem rf_T_100 : rf_T 100 := rf_T_of (n := 32) (rf_tb_lt (n := 2) rfl (by decide)) (by decide +kernel)
theorem rf_mo_100 : rf_mok 100 = true := rf_mok_ok 100 (by decide)
set_option maxRecDepth 100000 in
theorem rf_T_101 : rf_T 101 := rf_T_of (n := 48) (rf_tb_lt (n := 3) rfl (by decide)) (by decide +kernel)
theorem rf_mo_101 : rf_mok 101 = true := rf_mok_ok 101 (by decide)
set_option maxRecDepth 100000 in
theorem rf_T_102 : rf_T 102 := rf_T_of (n := 80) (rf_tb_lt (n := 5) rfl (by decide)) (by decide +kernel)
theorem rf_mo_102 : rf_mok 102 = true := rf_mok_ok 102 (by decide)
set_option maxRecDepth 100000 in
theorem rf_T_103 : rf_T 103 := rf_T_of (n := 48) (rf_tb_lt (n := 3) rfl (by decide)) (by decide +kernel)
theorem rf_mo_103 : rf_mok 103 = true := rf_mok_ok 103 (by decide)
set_option maxRecDepth 100000 in
theorem rf_T_104 : rf_T 104 := rf_T_of (n := 16) (rf_tb_lt (n := 1) rfl (by decide)) (by decide +kernel)
theorem rf_mo_104 : rf_mok 104 = true := rf_mok_ok 104 (by decide)
set_option maxRecDepth 100000 in
theorem rf_T_105 : rf_T 105 := rf_T_of (n := 32) (rf_tb_lt (n := 2) rfl (by decide)) (by decide +kernel)
theorem rf_mo_105 : rf_mok 105 = true := rf_mok_ok 105 (by decide)
set_option maxRecDepth 100000 in
theorem rf_T_106 : rf_T 106 := rf_T_of (n := 96) (rf_tb_lt (n := 6) rfl (by decide)) (by decide +kernel)
theorem rf_mo_106 : rf_mok 106 = true := rf_mok_ok 106 (by decide)
set_option maxRecDepth 100000 in
theorem rf_T_107 : rf_T 107 := rf_T_of (n := 48) (rf_tb_lt (n := 3) rfl (by decide)) (by decide +kernel)
theorem rf_mo_107 : rf_mok 107 = true := rf_mok_ok 107 (by decide)
set_option maxRecDepth 100000 in
theorem rf_T_108 : rf_T 108 := rf_T_of (n := 48) (rf_tb_lt (n := 3) rfl (by decide)) (by decide +kernel)
theorem rf_mo_108 : rf_mok 108 = true := rf_mok_ok 108 (by decide)
set_option maxRecDepth 100000 in
theorem rf_T_109 : rf_T 109 := rf_T_of (n := 48) (rf_tb_lt (n := 3) rfl (by decide)) (by decide +kernel)
theorem rf_mo_109 : rf_mok 109 = true := rf_mok_ok 109 (by decide)
set_option maxRecDepth 100000 in
theorem rf_T_110 : rf_T 110 := rf_T_of (n := 64) (rf_tb_lt (n := 4) rfl (by decide)) (by decide +kernel)
theorem rf_mo_110 : rf_mok 110 = true := rf_mok_ok 110 (by decide)
set_option maxRecDepth 100000 in
theorem rf_T_111 : rf_T 111 := rf_T_of (n := 64) (rf_tb_lt (n := 4) rfl (by decide)) (by decide +kernel)
theorem rf_mo_111 : rf_mok 111 = true := rf_mok_ok 111 (by decide)
set_option maxRecDepth 100000 in
theorem rf_T_112 : rf_T 112 := rf_T_of (n := 48) (rf_tb_lt (n := 3) rfl (by decide)) (by decide +kernel)
theorem rf_mo_112 : rf_mok 112 = true := rf_mok_ok 112 (by decide)
set_option maxRecDepth 100000 in
theorem rf_T_113 : rf_T 113 := rf_T_of (n := 16) (rf_tb_lt (n := 1) rfl (by decide)) (by decide +kernel)
theorem rf_mo_113 : rf_mok 113 = true := rf_mok_ok 113 (by decide)
set_option maxRecDepth 100000 in
theorem rf_T_114 : rf_T 114 := rf_T_of (n := 64) (rf_tb_lt (n := 4) rfl (by decide)) (by decide +kernel)
theorem rf_mo_114 : rf_mok 114 = true := rf_mok_ok 114 (by decide)
set_option maxRecDepth 100000 in
theorem rf_T_115 : rf_T 115 := rf_T_of (n := 32) (rf_tb_lt (n := 2) rfl (by decide)) (by decide +kernel)
theorem rf_mo_115 : rf_mok 115 = true := rf_mok_ok 115 (by decide)
set_option maxRecDepth 100000 in
theorem rf_T_116 : rf_T 116 := rf_T_of (n := 96) (rf_tb_lt (n := 6) rfl (by decide)) (by decide +kernel)
theorem rf_mo_116 : rf_mok 116 = true := rf_mok_ok 116 (by decide)
set_option maxRecDepth 100000 in
theorem rf_T_117 : rf_T 117 := rf_T_of (n := 80) (rf_tb_lt (n := 5) rfl (by decide)) (by decide +kernel)
theorem rf_mo_117 : rf_mok 117 = true := rf_mok_ok 117 (by decide)
set_option maxRecDepth 100000 in
theorem rf_T_118 : rf_T 118 := rf_T_of (n := 64) (rf_tb_lt (n := 4) rfl (by decide)) (by decide +kernel)
theorem rf_mo_118 : rf_mok 118 = true := rf_mok_ok 118 (by decide)
set_option maxRecDepth 100000 in
theorem rf_T_119 : rf_T 119 := rf_T_of (n := 64) (rf_tb_lt (n := 4) rfl (by decide)) (by decide +kernel)
theorem rf_mo_119 : rf_mok 119 = true := rf_mok_ok 119 (by decide)
set_option maxRecDepth 100000 in
theorem rf_T_120 : rf_T 120 := rf_T_of (n := 64) (rf_tb_lt (n := 4) rfl (by decide)) (by decide +kernel)
theorem rf_mo_120 : rf_mok 120 = true := rf_mok_ok 120 (by decide)
set_option maxRecDepth 100000 in
theorem rf_T_121 : rf_T 121 := rf_T_of (n := 32) (rf_tb_lt (n := 2) rfl (by decide)) (by decide +kernel)
theorem rf_mo_121 : rf_mok 121 = true := rf_mok_ok 121 (by decide)
set_option maxRecDepth 100000 in
theorem rf_T_122 : rf_T 122 := rf_T_of (n := 48) (rf_tb_lt (n := 3) rfl (by decide)) (by decide +kernel)
theorem rf_mo_122 : rf_mok 122 = true := rf_mok_ok 122 (by decide)
set_option maxRecDepth 100000 in
theorem rf_T_123 : rf_T 123 := rf_T_of (n := 96) (rf_tb_lt (n := 6) rfl (by decide)) (by decide +kernel)
theorem rf_mo_123 : rf_mok 123 = true := rf_mok_ok 123 (by decide)
set_option maxRecDepth 100000 in
theorem rf_T_124 : rf_T 124 := rf_T_of (n := 80) (rf_tb_lt (n := 5) rfl (by decide)) (by decide +kernel)
theorem rf_mo_124 : rf_mok 124 = true := rf_mok_ok 124 (by decide)
set_option maxRecDepth 100000 in
theorem rf_T_125 : rf_T 125 := rf_T_of (n := 64) (rf_tb_lt (n := 4) rfl (by decide)) (by decide +kernel)
theorem rf_mo_125 : rf_mok 125 = true := rf_mok_ok 125 (by decide)
set_option maxRecDepth 100000 in
theorem rf_T_126 : rf_T 126 := rf_T_of (n := 48) (rf_tb_lt (n := 3) rfl (by decide)) (by decide +kernel)
theorem rf_mo_126 : rf_mok 126 = true := rf_mok_ok 126 (by decide)
set_option maxRecDepth 100000 in
theorem rf_T_127 : rf_T 127 := rf_T_of (n := 48) (rf_tb_lt (n := 3) rfl (by decide)) (by decide +kernel)
theorem rf_mo_127 : rf_mok 127 = true := rf_mok_ok 127 (by decide)
set_option maxRecDepth 100000 in
theorem rf_T_128 : rf_T 128 := rf_T_of (n := 32) (rf_tb_lt (n := 2) rfl (by decide)) (by decide +kernel)
theorem rf_mo_128 : rf_mok 128 = true := rf_mok_ok 128 (by decide)
set_option maxRecDepth 100000 in
theorem rf_T_129 : rf_T 129 := rf_T_of (n := 64) (rf_tb_lt (n := 4) rfl (by decide)) (by decide +kernel)
theorem rf_mo_129 : rf_mok 129 = true := rf_mok_ok 129 (by decide)
set_option maxRecDepth 100000 in
theorem rf_T_130 : rf_T 130 := rf_T_of (n := 336) (rf_tb_lt (n := 21) rfl (by decide)) (by decide +kernel)
theorem rf_mo_130 : rf_mok 130 = true := rf_mok_ok 130 (by decide)
