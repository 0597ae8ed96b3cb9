/-! tables against bytes: printed by wip/whole/src/gen71.py -/
set_option maxRecDepth 100000 in
theorem rf_T_36 : rf_T 36 := rf_T_of (n := 48) (rf_tb_lt (n := 3) rfl (by decide)) (by decide +kernel)
theorem rf_mo_36 : rf_mok 36 = true := rf_mok_ok 36 (by decide)
set_option maxRecDepth 100000 in
theorem rf_T_37 : rf_T 37 := rf_T_of (n := 48) (rf_tb_lt (n := 3) rfl (by decide)) (by decide +kernel)
theorem rf_mo_37 : rf_mok 37 = true := rf_mok_ok 37 (by decide)
set_option maxRecDepth 100000 in
theorem rf_T_38 : rf_T 38 := rf_T_of (n := 112) (rf_tb_lt (n := 7) rfl (by decide)) (by decide +kernel)
theorem rf_mo_38 : rf_mok 38 = true := rf_mok_ok 38 (by decide)
set_option maxRecDepth 100000 in
theorem rf_T_39 : rf_T 39 := rf_T_of (n := 16) (rf_tb_lt (n := 1) rfl (by decide)) (by decide +kernel)
theorem rf_mo_39 : rf_mok 39 = true := rf_mok_ok 39 (by decide)
set_option maxRecDepth 100000 in
theorem rf_T_40 : rf_T 40 := rf_T_of (n := 48) (rf_tb_lt (n := 3) rfl (by decide)) (by decide +kernel)
theorem rf_mo_40 : rf_mok 40 = true := rf_mok_ok 40 (by decide)
set_option maxRecDepth 100000 in
theorem rf_T_41 : rf_T 41 := rf_T_of (n := 48) (rf_tb_lt (n := 3) rfl (by decide)) (by decide +kernel)
theorem rf_mo_41 : rf_mok 41 = true := rf_mok_ok 41 (by decide)
set_option maxRecDepth 100000 in
theorem rf_T_42 : rf_T 42 := rf_T_of (n := 48) (rf_tb_lt (n := 3) rfl (by decide)) (by decide +kernel)
theorem rf_mo_42 : rf_mok 42 = true := rf_mok_ok 42 (by decide)
set_option maxRecDepth 100000 in
theorem rf_T_43 : rf_T 43 := rf_T_of (n := 112) (rf_tb_lt (n := 7) rfl (by decide)) (by decide +kernel)
theorem rf_mo_43 : rf_mok 43 = true := rf_mok_ok 43 (by decide)
set_option maxRecDepth 100000 in
theorem rf_T_44 : rf_T 44 := rf_T_of (n := 48) (rf_tb_lt (n := 3) rfl (by decide)) (by decide +kernel)
theorem rf_mo_44 : rf_mok 44 = true := rf_mok_ok 44 (by decide)
set_option maxRecDepth 100000 in
theorem rf_T_45 : rf_T 45 := rf_T_of (n := 160) (rf_tb_lt (n := 10) rfl (by decide)) (by decide +kernel)
theorem rf_mo_45 : rf_mok 45 = true := rf_mok_ok 45 (by decide)
set_option maxRecDepth 100000 in
theorem rf_T_46 : rf_T 46 := rf_T_of (n := 32) (rf_tb_lt (n := 2) rfl (by decide)) (by decide +kernel)
theorem rf_mo_46 : rf_mok 46 = true := rf_mok_ok 46 (by decide)
set_option maxRecDepth 100000 in
theorem rf_T_47 : rf_T 47 := rf_T_of (n := 32) (rf_tb_lt (n := 2) rfl (by decide)) (by decide +kernel)
theorem rf_mo_47 : rf_mok 47 = true := rf_mok_ok 47 (by decide)
set_option maxRecDepth 100000 in
theorem rf_T_48 : rf_T 48 := rf_T_of (n := 192) (rf_tb_lt (n := 12) rfl (by decide)) (by decide +kernel)
theorem rf_mo_48 : rf_mok 48 = true := rf_mok_ok 48 (by decide)
set_option maxRecDepth 100000 in
theorem rf_T_49 : rf_T 49 := rf_T_of (n := 48) (rf_tb_lt (n := 3) rfl (by decide)) (by decide +kernel)
theorem rf_mo_49 : rf_mok 49 = true := rf_mok_ok 49 (by decide)
set_option maxRecDepth 100000 in
theorem rf_T_50 : rf_T 50 := rf_T_of (n := 48) (rf_tb_lt (n := 3) rfl (by decide)) (by decide +kernel)
theorem rf_mo_50 : rf_mok 50 = true := rf_mok_ok 50 (by decide)
set_option maxRecDepth 100000 in
theorem rf_T_51 : rf_T 51 := rf_T_of (n := 64) (rf_tb_lt (n := 4) rfl (by decide)) (by decide +kernel)
theorem rf_mo_51 : rf_mok 51 = true := rf_mok_ok 51 (by decide)
set_option maxRecDepth 100000 in
theorem rf_T_52 : rf_T 52 := rf_T_of (n := 32) (rf_tb_lt (n := 2) rfl (by decide)) (by decide +kernel)
theorem rf_mo_52 : rf_mok 52 = true := rf_mok_ok 52 (by decide)
set_option maxRecDepth 100000 in
theorem rf_T_53 : rf_T 53 := rf_T_of (n := 48) (rf_tb_lt (n := 3) rfl (by decide)) (by decide +kernel)
theorem rf_mo_53 : rf_mok 53 = true := rf_mok_ok 53 (by decide)
set_option maxRecDepth 100000 in
theorem rf_T_54 : rf_T 54 := rf_T_of (n := 32) (rf_tb_lt (n := 2) rfl (by decide)) (by decide +kernel)
theorem rf_mo_54 : rf_mok 54 = true := rf_mok_ok 54 (by decide)
set_option maxRecDepth 100000 in
theorem rf_T_55 : rf_T 55 := rf_T_of (n := 272) (rf_tb_lt (n := 17) rfl (by decide)) (by decide +kernel)
theorem rf_mo_55 : rf_mok 55 = true := rf_mok_ok 55 (by decide)
set_option maxRecDepth 100000 in
theorem rf_T_56 : rf_T 56 := rf_T_of (n := 64) (rf_tb_lt (n := 4) rfl (by decide)) (by decide +kernel)
theorem rf_mo_56 : rf_mok 56 = true := rf_mok_ok 56 (by decide)
set_option maxRecDepth 100000 in
theorem rf_T_57 : rf_T 57 := rf_T_of (n := 64) (rf_tb_lt (n := 4) rfl (by decide)) (by decide +kernel)
theorem rf_mo_57 : rf_mok 57 = true := rf_mok_ok 57 (by decide)
set_option maxRecDepth 100000 in
theorem rf_T_58 : rf_T 58 := rf_T_of (n := 112) (rf_tb_lt (n := 7) rfl (by decide)) (by decide +kernel)
theorem rf_mo_58 : rf_mok 58 = true := rf_mok_ok 58 (by decide)
set_option maxRecDepth 100000 in
theorem rf_T_59 : rf_T 59 := rf_T_of (n := 32) (rf_tb_lt (n := 2) rfl (by decide)) (by decide +kernel)
theorem rf_mo_59 : rf_mok 59 = true := rf_mok_ok 59 (by decide)
set_option maxRecDepth 100000 in
theorem rf_T_60 : rf_T 60 := rf_T_of (n := 176) (rf_tb_lt (n := 11) rfl (by decide)) (by decide +kernel)
theorem rf_mo_60 : rf_mok 60 = true := rf_mok_ok 60 (by decide)
set_option maxRecDepth 100000 in
theorem rf_T_61 : rf_T 61 := rf_T_of (n := 128) (rf_tb_lt (n := 8) rfl (by decide)) (by decide +kernel)
theorem rf_mo_61 : rf_mok 61 = true := rf_mok_ok 61 (by decide)
set_option maxRecDepth 100000 in
theorem rf_T_62 : rf_T 62 := rf_T_of (n := 32) (rf_tb_lt (n := 2) rfl (by decide)) (by decide +kernel)
theorem rf_mo_62 : rf_mok 62 = true := rf_mok_ok 62 (by decide)
set_option maxRecDepth 100000 in
theorem rf_T_63 : rf_T 63 := rf_T_of (n := 160) (rf_tb_lt (n := 10) rfl (by decide)) (by decide +kernel)
theorem rf_mo_63 : rf_mok 63 = true := rf_mok_ok 63 (by decide)
