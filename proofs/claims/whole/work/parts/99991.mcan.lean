/-! the model: canBe, its innermost loop -/
section MS
variable {l : Launch} {Q : rf_O → rf_S → Prop} {L : Nat} {I : Nat → Nat → Nat → Int32} {J : Nat → Nat → Nat → Int64} {σ : rf_S}
/-- of one cue, the first m moves: whether it can be, the places -/
noncomputable def cb1 (P : Nat → Nat → Int32) (b ms : Nat → Int32) (x y : Int32) (t : Int32 × (Nat → Int32)) : Nat → Int32 × (Nat → Int32)
  | 0 => t
  | m + 1 => cif (P 0 m = x ∨ P 0 m = y)
      (cif (¬ (cb1 P b ms x y t m).1 = 0 ∧ (mayG P b (cb1 P b ms x y t m).2 m ∨ (cb1 P b ms x y t m).2 (nn (P 0 m)) = ms (nn (P 0 m)))) 1 0, (cb1 P b ms x y t m).2)
      ((cb1 P b ms x y t m).1, uf (cb1 P b ms x y t m).2 (nn (P 0 m)) (cif (mayG P b (cb1 P b ms x y t m).2 m) (P 1 m) (ms (nn (P 0 m)))))
/-- of the first c cues -/
noncomputable def cb2 (P : Nat → Nat → Nat → Int32) (b : Nat → Nat → Int32) (n : Nat → Nat) (ms s : Nat → Int32) (a x y : Int32) (t : Int32 × (Nat → Int32)) : Nat → Int32 × (Nat → Int32)
  | 0 => t
  | c + 1 => cif (Int32.ofNat c = a ∨ bsy (s c)) (cb1 (P c) (b c) ms x y (cb2 P b n ms s a x y t c) (n c)) (cb2 P b n ms s a x y t c)
theorem cb1_01 {P : Nat → Nat → Int32} {b ms : Nat → Int32} {x y : Int32} {t : Int32 × (Nat → Int32)} (h : t.1 = 0 ∨ t.1 = 1) : ∀ m, (cb1 P b ms x y t m).1 = 0 ∨ (cb1 P b ms x y t m).1 = 1
  | 0 => h
  | m + 1 => by
    have ih := cb1_01 (P := P) (b := b) (ms := ms) (x := x) (y := y) h m
    rw [cb1]
    by_cases e : P 0 m = x ∨ P 0 m = y
    · rw [cif_t e]
      by_cases f : ¬ (cb1 P b ms x y t m).1 = 0 ∧ (mayG P b (cb1 P b ms x y t m).2 m ∨ (cb1 P b ms x y t m).2 (nn (P 0 m)) = ms (nn (P 0 m)))
      · exact Or.inr (cif_t f)
      · exact Or.inl (cif_f f)
    · rw [cif_f e]
      exact ih
theorem cb2_01 {P : Nat → Nat → Nat → Int32} {b : Nat → Nat → Int32} {n : Nat → Nat} {ms s : Nat → Int32} {a x y : Int32} {t : Int32 × (Nat → Int32)} (h : t.1 = 0 ∨ t.1 = 1) : ∀ c, (cb2 P b n ms s a x y t c).1 = 0 ∨ (cb2 P b n ms s a x y t c).1 = 1
  | 0 => h
  | c + 1 => by
    have ih := cb2_01 (P := P) (b := b) (n := n) (ms := ms) (s := s) (a := a) (x := x) (y := y) h c
    rw [cb2]
    by_cases e : Int32.ofNat c = a ∨ bsy (s c)
    · rw [cif_t e]; exact cb1_01 ih (n c)
    · rw [cif_f e]; exact ih
end MS
