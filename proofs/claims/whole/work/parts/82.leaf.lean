/-! small methods of the class: numbers and boxes -/
section LF
variable {l : Launch} {σ : rf_S} {Q : rf_O → rf_S → Prop}
theorem c_max {x y : Int32} (h : Q (.inl (some (.inl (if x < y then y else x)))) σ) : rf_C l 20 [.inl x, .inl y] σ Q := by
  apply rf_C.ofW
  refine rf_goW rf_mo_20 rf_T_20 20 [] (And.intro (fun hc => ?_) (fun hc => ?_))
  · rw [if_pos hc] at h; exact h
  · rw [if_neg hc] at h; exact h
theorem c_min {x y : Int32} (h : Q (.inl (some (.inl (if y < x then y else x)))) σ) : rf_C l 19 [.inl x, .inl y] σ Q := by
  apply rf_C.ofW
  refine rf_goW rf_mo_19 rf_T_19 20 [] (And.intro (fun hc => ?_) (fun hc => ?_))
  · rw [if_pos hc] at h; exact h
  · rw [if_neg hc] at h; exact h
theorem c_abs {x : Int32} (h : Q (.inl (some (.inl (if 0 ≤ x then x else -x)))) σ) : rf_C l 104 [.inl x] σ Q := by
  apply rf_C.ofW
  refine rf_goW rf_mo_104 rf_T_104 20 [] (And.intro (fun hc => ?_) (fun hc => ?_))
  · rw [if_pos hc] at h; exact h
  · rw [if_neg hc] at h; exact h
/-- a truth value as the machine has it -/
def bi (c : Prop) [Decidable c] : Int32 := if c then 1 else 0
theorem bi_t {c : Prop} [Decidable c] (h : c) : bi c = 1 := if_pos h
theorem bi_f {c : Prop} [Decidable c] (h : ¬ c) : bi c = 0 := if_neg h
theorem i_nlt {x y : Int32} : ¬ x < y ↔ y ≤ x := by rw [Int32.lt_iff_toInt_lt, Int32.le_iff_toInt_le]; omega
theorem i_nle {x y : Int32} : ¬ x ≤ y ↔ y < x := by rw [Int32.lt_iff_toInt_lt, Int32.le_iff_toInt_le]; omega
theorem c_within {x lo hi : Int32} (h : Q (.inl (some (.inl (bi (lo ≤ x ∧ x ≤ hi))))) σ) : rf_C l 10 [.inl x, .inl lo, .inl hi] σ Q := by
  apply rf_C.ofW
  refine rf_goW rf_mo_10 rf_T_10 20 [] (And.intro (fun hc => ?_) (fun hc => And.intro (fun hd => ?_) (fun hd => ?_)))
  · rw [bi_f fun q => absurd hc (i_nlt.mpr q.1)] at h; exact And.intro (Or.inl rfl) h
  · rw [bi_f fun q => absurd hd (i_nlt.mpr q.2)] at h; exact And.intro (Or.inl rfl) h
  · rw [bi_t ⟨i_nlt.mp hc, i_nlt.mp hd⟩] at h; exact And.intro (Or.inr rfl) h
/-- the bit of a number -/
def hb (x y : Int32) : Prop := (x >>> (y &&& 31)) &&& 1 = 1
theorem c_hasBit {x y : Int32} (h1 : hb x y → Q (.inl (some (.inl 1))) σ) (h0 : ¬ hb x y → Q (.inl (some (.inl 0))) σ) : rf_C l 14 [.inl x, .inl y] σ Q := by
  apply rf_C.ofW
  refine rf_goW rf_mo_14 rf_T_14 20 [] (And.intro (fun hc => ?_) (fun hc => ?_))
  · exact And.intro (Or.inl rfl) (h0 hc)
  · exact And.intro (Or.inr rfl) (h1 hc)
/-- what Integer.bitCount answers -/
def bcs (x y : Int32) : Int32 := (x.toUInt32 >>> (y.toUInt32 &&& Int32.toUInt32 31)).toInt32
def bc1 (x : Int32) : Int32 := x - (bcs x 1 &&& 1431655765)
def bc2 (x : Int32) : Int32 := (x &&& 858993459) + (bcs x 2 &&& 858993459)
def bc3 (x : Int32) : Int32 := (x + bcs x 4) &&& 252645135
def bc4 (x : Int32) : Int32 := x + bcs x 8
def bc5 (x : Int32) : Int32 := (x + bcs x 16)
def bct (x : Int32) : Int32 := bc5 (bc4 (bc3 (bc2 (bc1 x)))) &&& 63
theorem c_bitCount {x : Int32} (h : Q (.inl (some (.inl (bct x)))) σ) : rf_C l 11 [.inl x] σ Q := by
  apply rf_C.ofW
  exact rf_goW rf_mo_11 rf_T_11 60 [] h
theorem c_isHoistSet {x : Int32} (h : Q (.inl (some (.inl (bi ((1 ≤ x ∧ x ≤ 4095) ∧ bct x ≤ 3))))) σ) : rf_C l 12 [.inl x] σ Q := by
  apply rf_C.ofW
  refine rf_goW rf_mo_12 rf_T_12 20 [] (And.intro ⟨by decide, by decide⟩ (c_within (And.intro (fun hc => ?_) (fun hc => And.intro ⟨by decide, by decide⟩ (c_bitCount (And.intro (fun hd => ?_) (fun hd => ?_)))))))
  · rw [bi_f fun q => by rw [bi_t q.1] at hc; exact absurd hc (by decide)] at h
    exact And.intro (Or.inl rfl) h
  · rw [bi_f fun q => absurd hd (i_nlt.mpr q.2)] at h
    exact And.intro (Or.inl rfl) h
  · have hw : 1 ≤ x ∧ x ≤ 4095 := Classical.byContradiction fun q => hc (bi_f q)
    rw [bi_t ⟨hw, i_nlt.mp hd⟩] at h
    exact And.intro (Or.inr rfl) h
end LF
