/-! the law's table, on -/
set_option maxRecDepth 100000 in
theorem rf_Tl_66 : rf_okp 165 66 = true := by decide +kernel
set_option maxRecDepth 100000 in
theorem rf_Tl_67 : rf_okp 165 67 = true := by decide +kernel
set_option maxRecDepth 100000 in
theorem rf_Tl_68 : rf_okp 165 68 = true := by decide +kernel
set_option maxRecDepth 100000 in
theorem rf_Tl_69 : rf_okp 165 69 = true := by decide +kernel
set_option maxRecDepth 100000 in
theorem rf_Tl_70 : rf_okp 165 70 = true := by decide +kernel
set_option maxRecDepth 100000 in
theorem rf_Tl_71 : rf_okp 165 71 = true := by decide +kernel
set_option maxRecDepth 100000 in
theorem rf_Tl_72 : rf_okp 165 72 = true := by decide +kernel
set_option maxRecDepth 100000 in
theorem rf_Tl_73 : rf_okp 165 73 = true := by decide +kernel
set_option maxRecDepth 100000 in
theorem rf_Tl_74 : rf_okp 165 74 = true := by decide +kernel
set_option maxRecDepth 100000 in
theorem rf_Tl_75 : rf_okp 165 75 = true := by decide +kernel
set_option maxRecDepth 100000 in
theorem rf_Tl_76 : rf_okp 165 76 = true := by decide +kernel
set_option maxRecDepth 100000 in
theorem rf_Tl_77 : rf_okp 165 77 = true := by decide +kernel
set_option maxRecDepth 100000 in
theorem rf_Tl_78 : rf_okp 165 78 = true := by decide +kernel
set_option maxRecDepth 100000 in
theorem rf_Tl_79 : rf_okp 165 79 = true := by decide +kernel
set_option maxRecDepth 100000 in
theorem rf_Tl_80 : rf_okp 165 80 = true := by decide +kernel
set_option maxRecDepth 100000 in
theorem rf_Tl_81 : rf_okp 165 81 = true := by decide +kernel
set_option maxRecDepth 100000 in
theorem rf_Tl_82 : rf_okp 165 82 = true := by decide +kernel
set_option maxRecDepth 100000 in
theorem rf_Tl_83 : rf_okp 165 83 = true := by decide +kernel
set_option maxRecDepth 100000 in
theorem rf_Tl_84 : rf_okp 165 84 = true := by decide +kernel
set_option maxRecDepth 100000 in
theorem rf_Tl_85 : rf_okp 165 85 = true := by decide +kernel
set_option maxRecDepth 100000 in
theorem rf_Tl_86 : rf_okp 165 86 = true := by decide +kernel
theorem rf_Tl : ∀ c, c < 87 → rf_okp 165 c = true := by
  intro c hc
  by_cases h43 : c < 43
  · by_cases h21 : c < 21
    · by_cases h10 : c < 10
      · by_cases h5 : c < 5
        · by_cases h2 : c < 2
          · by_cases h1 : c < 1
            · exact (show c = 0 by omega) ▸ rf_Tl_0
            · exact (show c = 1 by omega) ▸ rf_Tl_1
          · by_cases h3 : c < 3
            · exact (show c = 2 by omega) ▸ rf_Tl_2
            · by_cases h4 : c < 4
              · exact (show c = 3 by omega) ▸ rf_Tl_3
              · exact (show c = 4 by omega) ▸ rf_Tl_4
        · by_cases h7 : c < 7
          · by_cases h6 : c < 6
            · exact (show c = 5 by omega) ▸ rf_Tl_5
            · exact (show c = 6 by omega) ▸ rf_Tl_6
          · by_cases h8 : c < 8
            · exact (show c = 7 by omega) ▸ rf_Tl_7
            · by_cases h9 : c < 9
              · exact (show c = 8 by omega) ▸ rf_Tl_8
              · exact (show c = 9 by omega) ▸ rf_Tl_9
      · by_cases h15 : c < 15
        · by_cases h12 : c < 12
          · by_cases h11 : c < 11
            · exact (show c = 10 by omega) ▸ rf_Tl_10
            · exact (show c = 11 by omega) ▸ rf_Tl_11
          · by_cases h13 : c < 13
            · exact (show c = 12 by omega) ▸ rf_Tl_12
            · by_cases h14 : c < 14
              · exact (show c = 13 by omega) ▸ rf_Tl_13
              · exact (show c = 14 by omega) ▸ rf_Tl_14
        · by_cases h18 : c < 18
          · by_cases h16 : c < 16
            · exact (show c = 15 by omega) ▸ rf_Tl_15
            · by_cases h17 : c < 17
              · exact (show c = 16 by omega) ▸ rf_Tl_16
              · exact (show c = 17 by omega) ▸ rf_Tl_17
          · by_cases h19 : c < 19
            · exact (show c = 18 by omega) ▸ rf_Tl_18
            · by_cases h20 : c < 20
              · exact (show c = 19 by omega) ▸ rf_Tl_19
              · exact (show c = 20 by omega) ▸ rf_Tl_20
    · by_cases h32 : c < 32
      · by_cases h26 : c < 26
        · by_cases h23 : c < 23
          · by_cases h22 : c < 22
            · exact (show c = 21 by omega) ▸ rf_Tl_21
            · exact (show c = 22 by omega) ▸ rf_Tl_22
          · by_cases h24 : c < 24
            · exact (show c = 23 by omega) ▸ rf_Tl_23
            · by_cases h25 : c < 25
              · exact (show c = 24 by omega) ▸ rf_Tl_24
              · exact (show c = 25 by omega) ▸ rf_Tl_25
        · by_cases h29 : c < 29
          · by_cases h27 : c < 27
            · exact (show c = 26 by omega) ▸ rf_Tl_26
            · by_cases h28 : c < 28
              · exact (show c = 27 by omega) ▸ rf_Tl_27
              · exact (show c = 28 by omega) ▸ rf_Tl_28
          · by_cases h30 : c < 30
            · exact (show c = 29 by omega) ▸ rf_Tl_29
            · by_cases h31 : c < 31
              · exact (show c = 30 by omega) ▸ rf_Tl_30
              · exact (show c = 31 by omega) ▸ rf_Tl_31
      · by_cases h37 : c < 37
        · by_cases h34 : c < 34
          · by_cases h33 : c < 33
            · exact (show c = 32 by omega) ▸ rf_Tl_32
            · exact (show c = 33 by omega) ▸ rf_Tl_33
          · by_cases h35 : c < 35
            · exact (show c = 34 by omega) ▸ rf_Tl_34
            · by_cases h36 : c < 36
              · exact (show c = 35 by omega) ▸ rf_Tl_35
              · exact (show c = 36 by omega) ▸ rf_Tl_36
        · by_cases h40 : c < 40
          · by_cases h38 : c < 38
            · exact (show c = 37 by omega) ▸ rf_Tl_37
            · by_cases h39 : c < 39
              · exact (show c = 38 by omega) ▸ rf_Tl_38
              · exact (show c = 39 by omega) ▸ rf_Tl_39
          · by_cases h41 : c < 41
            · exact (show c = 40 by omega) ▸ rf_Tl_40
            · by_cases h42 : c < 42
              · exact (show c = 41 by omega) ▸ rf_Tl_41
              · exact (show c = 42 by omega) ▸ rf_Tl_42
  · by_cases h65 : c < 65
    · by_cases h54 : c < 54
      · by_cases h48 : c < 48
        · by_cases h45 : c < 45
          · by_cases h44 : c < 44
            · exact (show c = 43 by omega) ▸ rf_Tl_43
            · exact (show c = 44 by omega) ▸ rf_Tl_44
          · by_cases h46 : c < 46
            · exact (show c = 45 by omega) ▸ rf_Tl_45
            · by_cases h47 : c < 47
              · exact (show c = 46 by omega) ▸ rf_Tl_46
              · exact (show c = 47 by omega) ▸ rf_Tl_47
        · by_cases h51 : c < 51
          · by_cases h49 : c < 49
            · exact (show c = 48 by omega) ▸ rf_Tl_48
            · by_cases h50 : c < 50
              · exact (show c = 49 by omega) ▸ rf_Tl_49
              · exact (show c = 50 by omega) ▸ rf_Tl_50
          · by_cases h52 : c < 52
            · exact (show c = 51 by omega) ▸ rf_Tl_51
            · by_cases h53 : c < 53
              · exact (show c = 52 by omega) ▸ rf_Tl_52
              · exact (show c = 53 by omega) ▸ rf_Tl_53
      · by_cases h59 : c < 59
        · by_cases h56 : c < 56
          · by_cases h55 : c < 55
            · exact (show c = 54 by omega) ▸ rf_Tl_54
            · exact (show c = 55 by omega) ▸ rf_Tl_55
          · by_cases h57 : c < 57
            · exact (show c = 56 by omega) ▸ rf_Tl_56
            · by_cases h58 : c < 58
              · exact (show c = 57 by omega) ▸ rf_Tl_57
              · exact (show c = 58 by omega) ▸ rf_Tl_58
        · by_cases h62 : c < 62
          · by_cases h60 : c < 60
            · exact (show c = 59 by omega) ▸ rf_Tl_59
            · by_cases h61 : c < 61
              · exact (show c = 60 by omega) ▸ rf_Tl_60
              · exact (show c = 61 by omega) ▸ rf_Tl_61
          · by_cases h63 : c < 63
            · exact (show c = 62 by omega) ▸ rf_Tl_62
            · by_cases h64 : c < 64
              · exact (show c = 63 by omega) ▸ rf_Tl_63
              · exact (show c = 64 by omega) ▸ rf_Tl_64
    · by_cases h76 : c < 76
      · by_cases h70 : c < 70
        · by_cases h67 : c < 67
          · by_cases h66 : c < 66
            · exact (show c = 65 by omega) ▸ rf_Tl_65
            · exact (show c = 66 by omega) ▸ rf_Tl_66
          · by_cases h68 : c < 68
            · exact (show c = 67 by omega) ▸ rf_Tl_67
            · by_cases h69 : c < 69
              · exact (show c = 68 by omega) ▸ rf_Tl_68
              · exact (show c = 69 by omega) ▸ rf_Tl_69
        · by_cases h73 : c < 73
          · by_cases h71 : c < 71
            · exact (show c = 70 by omega) ▸ rf_Tl_70
            · by_cases h72 : c < 72
              · exact (show c = 71 by omega) ▸ rf_Tl_71
              · exact (show c = 72 by omega) ▸ rf_Tl_72
          · by_cases h74 : c < 74
            · exact (show c = 73 by omega) ▸ rf_Tl_73
            · by_cases h75 : c < 75
              · exact (show c = 74 by omega) ▸ rf_Tl_74
              · exact (show c = 75 by omega) ▸ rf_Tl_75
      · by_cases h81 : c < 81
        · by_cases h78 : c < 78
          · by_cases h77 : c < 77
            · exact (show c = 76 by omega) ▸ rf_Tl_76
            · exact (show c = 77 by omega) ▸ rf_Tl_77
          · by_cases h79 : c < 79
            · exact (show c = 78 by omega) ▸ rf_Tl_78
            · by_cases h80 : c < 80
              · exact (show c = 79 by omega) ▸ rf_Tl_79
              · exact (show c = 80 by omega) ▸ rf_Tl_80
        · by_cases h84 : c < 84
          · by_cases h82 : c < 82
            · exact (show c = 81 by omega) ▸ rf_Tl_81
            · by_cases h83 : c < 83
              · exact (show c = 82 by omega) ▸ rf_Tl_82
              · exact (show c = 83 by omega) ▸ rf_Tl_83
          · by_cases h85 : c < 85
            · exact (show c = 84 by omega) ▸ rf_Tl_84
            · by_cases h86 : c < 86
              · exact (show c = 85 by omega) ▸ rf_Tl_85
              · exact (show c = 86 by omega) ▸ rf_Tl_86
theorem rf_T_165 : rf_T 165 := rf_T_ofc (n := 87) (rf_tb_lt (n := 87) rfl (by decide)) rf_Tl
theorem rf_mo_165 : rf_mok 165 = true := rf_mok_ok 165 (by decide)
