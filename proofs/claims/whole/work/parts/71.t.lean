/-! the law's table against its bytes, sixteen places at a time: printed by gen71.py -/
def rf_okp (k c : Nat) : Bool := (List.range 16).all fun i => match rf_tb k (16 * c + i) with
  | none => true
  | some e => rf_okb k (16 * c + i) e
theorem rf_T_ofc {k n : Nat} (hl : ∀ pc e, rf_tb k pc = some e → pc < 16 * n) (h : ∀ c, c < n → rf_okp k c = true) : rf_T k := by
  intro pc e he
  have hlt := hl pc e he
  have := List.all_eq_true.mp (h (pc / 16) (by omega)) (pc % 16) (List.mem_range.mpr (by omega))
  rw [show 16 * (pc / 16) + pc % 16 = pc by omega, he] at this
  exact this
set_option maxRecDepth 100000 in
theorem rf_Tl_0 : rf_okp 165 0 = true := by decide +kernel
set_option maxRecDepth 100000 in
theorem rf_Tl_1 : rf_okp 165 1 = true := by decide +kernel
set_option maxRecDepth 100000 in
theorem rf_Tl_2 : rf_okp 165 2 = true := by decide +kernel
set_option maxRecDepth 100000 in
theorem rf_Tl_3 : rf_okp 165 3 = true := by decide +kernel
set_option maxRecDepth 100000 in
theorem rf_Tl_4 : rf_okp 165 4 = true := by decide +kernel
set_option maxRecDepth 100000 in
theorem rf_Tl_5 : rf_okp 165 5 = true := by decide +kernel
set_option maxRecDepth 100000 in
theorem rf_Tl_6 : rf_okp 165 6 = true := by decide +kernel
set_option maxRecDepth 100000 in
theorem rf_Tl_7 : rf_okp 165 7 = true := by decide +kernel
set_option maxRecDepth 100000 in
theorem rf_Tl_8 : rf_okp 165 8 = true := by decide +kernel
set_option maxRecDepth 100000 in
theorem rf_Tl_9 : rf_okp 165 9 = true := by decide +kernel
set_option maxRecDepth 100000 in
theorem rf_Tl_10 : rf_okp 165 10 = true := by decide +kernel
set_option maxRecDepth 100000 in
theorem rf_Tl_11 : rf_okp 165 11 = true := by decide +kernel
set_option maxRecDepth 100000 in
theorem rf_Tl_12 : rf_okp 165 12 = true := by decide +kernel
set_option maxRecDepth 100000 in
theorem rf_Tl_13 : rf_okp 165 13 = true := by decide +kernel
set_option maxRecDepth 100000 in
theorem rf_Tl_14 : rf_okp 165 14 = true := by decide +kernel
set_option maxRecDepth 100000 in
theorem rf_Tl_15 : rf_okp 165 15 = true := by decide +kernel
set_option maxRecDepth 100000 in
theorem rf_Tl_16 : rf_okp 165 16 = true := by decide +kernel
set_option maxRecDepth 100000 in
theorem rf_Tl_17 : rf_okp 165 17 = true := by decide +kernel
set_option maxRecDepth 100000 in
theorem rf_Tl_18 : rf_okp 165 18 = true := by decide +kernel
set_option maxRecDepth 100000 in
theorem rf_Tl_19 : rf_okp 165 19 = true := by decide +kernel
set_option maxRecDepth 100000 in
theorem rf_Tl_20 : rf_okp 165 20 = true := by decide +kernel
set_option maxRecDepth 100000 in
theorem rf_Tl_21 : rf_okp 165 21 = true := by decide +kernel
