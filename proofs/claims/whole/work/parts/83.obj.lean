/-! boxes, drives, pieces, moves -/
section LO
variable {l : Launch} {σ : rf_S} {Q : rf_O → rf_S → Prop}
theorem br_eq1 {P P' : Prop} (p : P') : rf_br .eq 1 0 P P' := And.intro (fun h => absurd h (by decide)) (fun _ => p)
theorem br_eq0 {P P' : Prop} (p : P) : rf_br .eq 0 0 P P' := And.intro (fun _ => p) (fun h => absurd rfl h)
theorem br_ne1 {P P' : Prop} (p : P) : rf_br .ne 1 0 P P' := And.intro (fun _ => p) (fun h => absurd h (by decide))
theorem br_ne0 {P P' : Prop} (p : P') : rf_br .ne 0 0 P P' := And.intro (fun h => absurd rfl h) (fun _ => p)
theorem c_within2 {x lo hi : Int32} (h1 : lo ≤ x ∧ x ≤ hi → Q (.inl (some (.inl 1))) σ) (h0 : ¬ (lo ≤ x ∧ x ≤ hi) → Q (.inl (some (.inl 0))) σ) : rf_C l 10 [.inl x, .inl lo, .inl hi] σ Q := by
  by_cases hc : lo ≤ x ∧ x ≤ hi
  · exact c_within (by rw [bi_t hc]; exact h1 hc)
  · exact c_within (by rw [bi_f hc]; exact h0 hc)
/-- two boxes share floor -/
def flo (I : Nat → Nat → Nat → Int32) (i j : Nat) : Prop := (I 0 i 0 < I 0 j 0 + I 0 j 2 ∧ I 0 j 0 < I 0 i 0 + I 0 i 2) ∧ (I 0 i 1 < I 0 j 1 + I 0 j 3 ∧ I 0 j 1 < I 0 i 1 + I 0 i 3)
theorem c_sharesFloor {i j : Nat} (h1 : flo σ.2.2.1 i j → Q (.inl (some (.inl 1))) σ) (h0 : ¬ flo σ.2.2.1 i j → Q (.inl (some (.inl 0))) σ) : rf_C l 18 [.inr (.inr (some (0, i))), .inr (.inr (some (0, j)))] σ Q := by
  apply rf_C.ofW
  refine rf_goW rf_mo_18 rf_T_18 60 [] (And.intro (fun hc => And.intro (Or.inl rfl) (h0 fun q => ?_)) (fun hc => And.intro (fun hd => And.intro (Or.inl rfl) (h0 fun q => ?_)) (fun hd => And.intro (fun he => And.intro (Or.inl rfl) (h0 fun q => ?_)) (fun he => And.intro (fun hf => And.intro (Or.inl rfl) (h0 fun q => ?_)) (fun hf => And.intro (Or.inr rfl) (h1 ?_))))))
  · exact i_nlt.mpr hc q.1.1
  · exact i_nlt.mpr hd q.1.2
  · exact i_nlt.mpr he q.2.1
  · exact i_nlt.mpr hf q.2.2
  · exact ⟨⟨i_nle.mp hc, i_nle.mp hd⟩, i_nle.mp he, i_nle.mp hf⟩
def mn (x y : Int32) : Int32 := if y < x then y else x
def mx (x y : Int32) : Int32 := if x < y then y else x
/-- the box i anywhere from a to b, the box j from c to d: they share a height -/
def hei (I : Nat → Nat → Nat → Int32) (i j : Nat) (a b c d : Int32) : Prop := mn a b - I 0 i 4 < mx c d ∧ mn c d - I 0 j 4 < mx a b
theorem c_sharesHeight {i j : Nat} {a b c d : Int32} (h1 : hei σ.2.2.1 i j a b c d → Q (.inl (some (.inl 1))) σ) (h0 : ¬ hei σ.2.2.1 i j a b c d → Q (.inl (some (.inl 0))) σ) : rf_C l 21 [.inr (.inr (some (0, i))), .inl a, .inl b, .inr (.inr (some (0, j))), .inl c, .inl d] σ Q := by
  apply rf_C.ofW
  refine rf_goW rf_mo_21 rf_T_21 60 [] (And.intro ⟨by decide, by decide⟩ (c_min (And.intro ⟨by decide, by decide⟩ (c_max (And.intro (fun hc => And.intro (Or.inl rfl) (h0 fun q => ?_)) (fun hc => And.intro ⟨by decide, by decide⟩ (c_min (And.intro ⟨by decide, by decide⟩ (c_max (And.intro (fun hd => And.intro (Or.inl rfl) (h0 fun q => ?_)) (fun hd => And.intro (Or.inr rfl) (h1 ?_))))))))))))
  · exact i_nlt.mpr hc q.1
  · exact i_nlt.mpr hd q.2
  · exact ⟨i_nle.mp hc, i_nle.mp hd⟩
end LO
