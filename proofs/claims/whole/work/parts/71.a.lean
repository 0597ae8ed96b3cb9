/-! tables against bytes: printed by wip/whole/src/gen71.py -/
set_option maxRecDepth 100000 in
theorem rf_T_0 : rf_T 0 := rf_T_of (n := 32) (rf_tb_lt (n := 2) rfl (by decide)) (by decide +kernel)
theorem rf_mo_0 : rf_mok 0 = true := rf_mok_ok 0 (by decide)
set_option maxRecDepth 100000 in
theorem rf_T_1 : rf_T 1 := rf_T_of (n := 32) (rf_tb_lt (n := 2) rfl (by decide)) (by decide +kernel)
theorem rf_mo_1 : rf_mok 1 = true := rf_mok_ok 1 (by decide)
set_option maxRecDepth 100000 in
theorem rf_T_2 : rf_T 2 := rf_T_of (n := 64) (rf_tb_lt (n := 4) rfl (by decide)) (by decide +kernel)
theorem rf_mo_2 : rf_mok 2 = true := rf_mok_ok 2 (by decide)
set_option maxRecDepth 100000 in
theorem rf_T_3 : rf_T 3 := rf_T_of (n := 64) (rf_tb_lt (n := 4) rfl (by decide)) (by decide +kernel)
theorem rf_mo_3 : rf_mok 3 = true := rf_mok_ok 3 (by decide)
set_option maxRecDepth 100000 in
theorem rf_T_4 : rf_T 4 := rf_T_of (n := 32) (rf_tb_lt (n := 2) rfl (by decide)) (by decide +kernel)
theorem rf_mo_4 : rf_mok 4 = true := rf_mok_ok 4 (by decide)
set_option maxRecDepth 100000 in
theorem rf_T_5 : rf_T 5 := rf_T_of (n := 64) (rf_tb_lt (n := 4) rfl (by decide)) (by decide +kernel)
theorem rf_mo_5 : rf_mok 5 = true := rf_mok_ok 5 (by decide)
set_option maxRecDepth 100000 in
theorem rf_T_6 : rf_T 6 := rf_T_of (n := 48) (rf_tb_lt (n := 3) rfl (by decide)) (by decide +kernel)
theorem rf_mo_6 : rf_mok 6 = true := rf_mok_ok 6 (by decide)
set_option maxRecDepth 100000 in
theorem rf_T_7 : rf_T 7 := rf_T_of (n := 208) (rf_tb_lt (n := 13) rfl (by decide)) (by decide +kernel)
theorem rf_mo_7 : rf_mok 7 = true := rf_mok_ok 7 (by decide)
set_option maxRecDepth 100000 in
theorem rf_T_8 : rf_T 8 := rf_T_of (n := 352) (rf_tb_lt (n := 22) rfl (by decide)) (by decide +kernel)
theorem rf_mo_8 : rf_mok 8 = true := rf_mok_ok 8 (by decide)
set_option maxRecDepth 100000 in
theorem rf_T_10 : rf_T 10 := rf_T_of (n := 16) (rf_tb_lt (n := 1) rfl (by decide)) (by decide +kernel)
theorem rf_mo_10 : rf_mok 10 = true := rf_mok_ok 10 (by decide)
set_option maxRecDepth 100000 in
theorem rf_T_11 : rf_T 11 := rf_T_of (n := 64) (rf_tb_lt (n := 4) rfl (by decide)) (by decide +kernel)
theorem rf_mo_11 : rf_mok 11 = true := rf_mok_ok 11 (by decide)
set_option maxRecDepth 100000 in
theorem rf_T_12 : rf_T 12 := rf_T_of (n := 32) (rf_tb_lt (n := 2) rfl (by decide)) (by decide +kernel)
theorem rf_mo_12 : rf_mok 12 = true := rf_mok_ok 12 (by decide)
set_option maxRecDepth 100000 in
theorem rf_T_14 : rf_T 14 := rf_T_of (n := 16) (rf_tb_lt (n := 1) rfl (by decide)) (by decide +kernel)
theorem rf_mo_14 : rf_mok 14 = true := rf_mok_ok 14 (by decide)
set_option maxRecDepth 100000 in
theorem rf_T_15 : rf_T 15 := rf_T_of (n := 48) (rf_tb_lt (n := 3) rfl (by decide)) (by decide +kernel)
theorem rf_mo_15 : rf_mok 15 = true := rf_mok_ok 15 (by decide)
set_option maxRecDepth 100000 in
theorem rf_T_17 : rf_T 17 := rf_T_of (n := 48) (rf_tb_lt (n := 3) rfl (by decide)) (by decide +kernel)
theorem rf_mo_17 : rf_mok 17 = true := rf_mok_ok 17 (by decide)
set_option maxRecDepth 100000 in
theorem rf_T_18 : rf_T 18 := rf_T_of (n := 80) (rf_tb_lt (n := 5) rfl (by decide)) (by decide +kernel)
theorem rf_mo_18 : rf_mok 18 = true := rf_mok_ok 18 (by decide)
set_option maxRecDepth 100000 in
theorem rf_T_19 : rf_T 19 := rf_T_of (n := 16) (rf_tb_lt (n := 1) rfl (by decide)) (by decide +kernel)
theorem rf_mo_19 : rf_mok 19 = true := rf_mok_ok 19 (by decide)
set_option maxRecDepth 100000 in
theorem rf_T_20 : rf_T 20 := rf_T_of (n := 16) (rf_tb_lt (n := 1) rfl (by decide)) (by decide +kernel)
theorem rf_mo_20 : rf_mok 20 = true := rf_mok_ok 20 (by decide)
set_option maxRecDepth 100000 in
theorem rf_T_21 : rf_T 21 := rf_T_of (n := 48) (rf_tb_lt (n := 3) rfl (by decide)) (by decide +kernel)
theorem rf_mo_21 : rf_mok 21 = true := rf_mok_ok 21 (by decide)
set_option maxRecDepth 100000 in
theorem rf_T_22 : rf_T 22 := rf_T_of (n := 96) (rf_tb_lt (n := 6) rfl (by decide)) (by decide +kernel)
theorem rf_mo_22 : rf_mok 22 = true := rf_mok_ok 22 (by decide)
set_option maxRecDepth 100000 in
theorem rf_T_23 : rf_T 23 := rf_T_of (n := 16) (rf_tb_lt (n := 1) rfl (by decide)) (by decide +kernel)
theorem rf_mo_23 : rf_mok 23 = true := rf_mok_ok 23 (by decide)
set_option maxRecDepth 100000 in
theorem rf_T_24 : rf_T 24 := rf_T_of (n := 32) (rf_tb_lt (n := 2) rfl (by decide)) (by decide +kernel)
theorem rf_mo_24 : rf_mok 24 = true := rf_mok_ok 24 (by decide)
set_option maxRecDepth 100000 in
theorem rf_T_25 : rf_T 25 := rf_T_of (n := 224) (rf_tb_lt (n := 14) rfl (by decide)) (by decide +kernel)
theorem rf_mo_25 : rf_mok 25 = true := rf_mok_ok 25 (by decide)
set_option maxRecDepth 100000 in
theorem rf_T_26 : rf_T 26 := rf_T_of (n := 32) (rf_tb_lt (n := 2) rfl (by decide)) (by decide +kernel)
theorem rf_mo_26 : rf_mok 26 = true := rf_mok_ok 26 (by decide)
set_option maxRecDepth 100000 in
theorem rf_T_27 : rf_T 27 := rf_T_of (n := 16) (rf_tb_lt (n := 1) rfl (by decide)) (by decide +kernel)
theorem rf_mo_27 : rf_mok 27 = true := rf_mok_ok 27 (by decide)
set_option maxRecDepth 100000 in
theorem rf_T_28 : rf_T 28 := rf_T_of (n := 32) (rf_tb_lt (n := 2) rfl (by decide)) (by decide +kernel)
theorem rf_mo_28 : rf_mok 28 = true := rf_mok_ok 28 (by decide)
set_option maxRecDepth 100000 in
theorem rf_T_29 : rf_T 29 := rf_T_of (n := 32) (rf_tb_lt (n := 2) rfl (by decide)) (by decide +kernel)
theorem rf_mo_29 : rf_mok 29 = true := rf_mok_ok 29 (by decide)
set_option maxRecDepth 100000 in
theorem rf_T_30 : rf_T 30 := rf_T_of (n := 80) (rf_tb_lt (n := 5) rfl (by decide)) (by decide +kernel)
theorem rf_mo_30 : rf_mok 30 = true := rf_mok_ok 30 (by decide)
set_option maxRecDepth 100000 in
theorem rf_T_31 : rf_T 31 := rf_T_of (n := 64) (rf_tb_lt (n := 4) rfl (by decide)) (by decide +kernel)
theorem rf_mo_31 : rf_mok 31 = true := rf_mok_ok 31 (by decide)
set_option maxRecDepth 100000 in
theorem rf_T_32 : rf_T 32 := rf_T_of (n := 64) (rf_tb_lt (n := 4) rfl (by decide)) (by decide +kernel)
theorem rf_mo_32 : rf_mok 32 = true := rf_mok_ok 32 (by decide)
set_option maxRecDepth 100000 in
theorem rf_T_33 : rf_T 33 := rf_T_of (n := 368) (rf_tb_lt (n := 23) rfl (by decide)) (by decide +kernel)
theorem rf_mo_33 : rf_mok 33 = true := rf_mok_ok 33 (by decide)
set_option maxRecDepth 100000 in
theorem rf_T_34 : rf_T 34 := rf_T_of (n := 16) (rf_tb_lt (n := 1) rfl (by decide)) (by decide +kernel)
theorem rf_mo_34 : rf_mok 34 = true := rf_mok_ok 34 (by decide)
set_option maxRecDepth 100000 in
theorem rf_T_35 : rf_T 35 := rf_T_of (n := 32) (rf_tb_lt (n := 2) rfl (by decide)) (by decide +kernel)
theorem rf_mo_35 : rf_mok 35 = true := rf_mok_ok 35 (by decide)
