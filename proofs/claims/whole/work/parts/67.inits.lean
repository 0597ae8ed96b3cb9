/-! the constructors: printed by genfacts.py -/
set_option maxRecDepth 100000 in
theorem rf_ic0 : rf_wok (.code (rf_nm 0) (rf_cd 0) (rf_ml 0) none) := rf_at 93 rfl rfl
set_option maxRecDepth 100000 in
theorem rf_ic1 : rf_wok (.code (rf_nm 1) (rf_cd 1) (rf_ml 1) none) := rf_at 126 rfl rfl
set_option maxRecDepth 100000 in
theorem rf_ic2 : rf_wok (.code (rf_nm 2) (rf_cd 2) (rf_ml 2) none) := rf_at 119 rfl rfl
set_option maxRecDepth 100000 in
theorem rf_ic3 : rf_wok (.code (rf_nm 3) (rf_cd 3) (rf_ml 3) none) := rf_at 113 rfl rfl
set_option maxRecDepth 100000 in
theorem rf_ic4 : rf_wok (.code (rf_nm 4) (rf_cd 4) (rf_ml 4) none) := rf_at 196 rfl rfl
set_option maxRecDepth 100000 in
theorem rf_ic5 : rf_wok (.code (rf_nm 5) (rf_cd 5) (rf_ml 5) none) := rf_at 222 rfl rfl
set_option maxRecDepth 100000 in
theorem rf_ic6 : rf_wok (.code (rf_nm 6) (rf_cd 6) (rf_ml 6) none) := rf_at 263 rfl rfl
set_option maxRecDepth 100000 in
theorem rf_ic7 : rf_wok (.code (rf_nm 7) (rf_cd 7) (rf_ml 7) none) := rf_at 79 rfl rfl
set_option maxRecDepth 100000 in
theorem rf_ic8 : rf_wok (.code (rf_nm 8) (rf_cd 8) (rf_ml 8) none) := rf_at 845 rfl rfl
theorem rf_icall {a : Nat} (ha : a < 9) : rf_wok (.code (rf_nm a) (rf_cd a) (rf_ml a) none) ∧ rf_rt a = none ∧ rf_hh a = [] := by
  rcases a with _ | _ | _ | _ | _ | _ | _ | _ | _ | a
  · exact ⟨rf_ic0, rfl, rfl⟩
  · exact ⟨rf_ic1, rfl, rfl⟩
  · exact ⟨rf_ic2, rfl, rfl⟩
  · exact ⟨rf_ic3, rfl, rfl⟩
  · exact ⟨rf_ic4, rfl, rfl⟩
  · exact ⟨rf_ic5, rfl, rfl⟩
  · exact ⟨rf_ic6, rfl, rfl⟩
  · exact ⟨rf_ic7, rfl, rfl⟩
  · exact ⟨rf_ic8, rfl, rfl⟩
  · omega
theorem rf_oic : rf_wok (.instanceMethod Lib.objectInit) ∧ rf_wok (.code Lib.objectInit ⟨#[0xb1]⟩ 1 none) := ⟨rf_at 81 (by decide +kernel) rfl, rf_at 82 (by decide +kernel) rfl⟩
theorem rf_ov2 : rf_wok (.arrayOver (.object "FlyingDesk$Drive")) := rf_at 84 (by decide +kernel) rfl
theorem rf_ov6 : rf_wok (.arrayOver (.object "FlyingDesk$Piece")) := rf_at 86 (by decide +kernel) rfl
theorem rf_ov1 : rf_wok (.arrayOver (.object "FlyingDesk$Cue")) := rf_at 88 (by decide +kernel) rfl
theorem rf_ov5 : rf_wok (.arrayOver (.object "FlyingDesk$Move")) := rf_at 122 (by decide +kernel) rfl
theorem rf_ac_int : rf_wok (.arrayClass .int) := rf_at 108 (by decide +kernel) rfl
theorem rf_ac_boolean : rf_wok (.arrayClass .boolean) := rf_at 107 (by decide +kernel) rfl
theorem rf_ac_long : rf_wok (.arrayClass .long) := rf_at 1152 (by decide +kernel) rfl
