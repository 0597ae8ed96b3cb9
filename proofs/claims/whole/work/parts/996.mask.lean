/-! the model: small calls and questions -/
section MF
variable {l : Launch} {Q : rf_O → rf_S → Prop} {L : Nat} {I : Nat → Nat → Nat → Int32} {J : Nat → Nat → Nat → Int64} {σ : rf_S}
/-- what was thrown -/
def thI (I : Nat → Nat → Nat → Int32) (x : Int32) : Nat → Nat → Nat → Int32 := rf_u3 I 8 0 0 x
theorem thI_0 {x : Int32} : thI I x 8 0 0 = x := by simp [thI, rf_u3]
theorem thI_b {b : Nat} {x : Int32} (h : ¬ b = 8) : thI I x b = I b := u3_b h
theorem d_handle {s x : Int32} (hx : x = 0 ∨ x = 1) (h0 : ¬ ok s 3 → Q (.inl none) (sS L (thI I 1) J)) (hq : ok s 3 → Q (.inl none) (sS L (rf_u3 (thI I 0) 101 4 (nn s) x) J)) : rf_C l 93 [.inr (.inr (some (8, 0))), .inl s, .inl x] (sS L I J) Q := by
  apply rf_C.ofW
  refine rf_goW rf_mo_93 rf_T_93 30 [17] (And.intro ⟨by decide, by decide⟩ (d_isNumber (n := 3) (by decide) (fun a1 => br_eq1 ?_) (fun a1 => br_eq0 ?_)))
  · have g : rf_W l 93 17 [some (.inr (.inr (some (8, 0)))), some (.inl s), some (.inl x)] [] (sS L (thI I 0) J) 0 0 Q := rf_goW rf_mo_93 rf_T_93 30 [] (And.intro (fun e => absurd (thI_0 (I := I) (x := 0)) e) (fun _ => And.intro hx (And.intro a1 (hq a1))))
    exact g
  · have g : rf_W l 93 17 [some (.inr (.inr (some (8, 0)))), some (.inl s), some (.inl x)] [] (sS L (thI I 1) J) 0 0 Q := rf_goW rf_mo_93 rf_T_93 30 [] (And.intro (fun _ => h0 a1) (fun (e : thI I 1 8 0 0 = 0) => absurd (thI_0.symm.trans e) (by decide)))
    exact g
theorem d_cell {h v : Int32} (h0 : ¬ ok h 12 → Q (.inl none) (sS L (thI I 1) J)) (h1 : ok h 12 → v < -1 → Q (.inl none) (sS L (thI I 2) J)) (hq : ok h 12 → ¬ v < -1 → Q (.inl none) (sS L (rf_u3 (thI I 0) 100 16 (nn h) v) J)) : rf_C l 138 [.inr (.inr (some (8, 0))), .inl h, .inl v] (sS L I J) Q := by
  apply rf_C.ofW
  have bad : ∀ x, ¬ x = 0 → Q (.inl none) (sS L (thI I x) J) → rf_W l 138 27 [some (.inr (.inr (some (8, 0)))), some (.inl h), some (.inl v)] [] (sS L (thI I x) J) 0 0 Q := fun x hx q => rf_goW rf_mo_138 rf_T_138 30 [] (And.intro (fun _ => q) (fun (e : thI I x 8 0 0 = 0) => absurd (thI_0.symm.trans e) hx))
  refine rf_goW rf_mo_138 rf_T_138 30 [27] (And.intro ⟨by decide, by decide⟩ (d_isNumber (n := 12) (by decide) (fun a1 => br_ne1 (And.intro (fun e => ?_) (fun e => bad 2 (by decide) (h1 a1 (i_nle.mp e))))) (fun a1 => br_ne0 (bad 1 (by decide) (h0 a1)))))
  have g : rf_W l 138 27 [some (.inr (.inr (some (8, 0)))), some (.inl h), some (.inl v)] [] (sS L (thI I 0) J) 0 0 Q := rf_goW rf_mo_138 rf_T_138 30 [] (And.intro (fun e => absurd (thI_0 (I := I) (x := 0)) e) (fun _ => And.intro a1 (hq a1 (i_nlt.mpr e))))
  exact g
theorem d_lose {h v : Int32} (h0 : ¬ ok h 12 → Q (.inl none) (sS L (thI I 1) J)) (h1 : ok h 12 → ¬ (0 ≤ v ∧ v ≤ 100) → Q (.inl none) (sS L (thI I 2) J)) (hq : ok h 12 → 0 ≤ v ∧ v ≤ 100 → Q (.inl none) (sS L (rf_u3 (thI I 0) 100 15 (nn h) v) J)) : rf_C l 141 [.inr (.inr (some (8, 0))), .inl h, .inl v] (sS L I J) Q := by
  apply rf_C.ofW
  have bad : ∀ x, ¬ x = 0 → Q (.inl none) (sS L (thI I x) J) → rf_W l 141 32 [some (.inr (.inr (some (8, 0)))), some (.inl h), some (.inl v)] [] (sS L (thI I x) J) 0 0 Q := fun x hx q => rf_goW rf_mo_141 rf_T_141 30 [] (And.intro (fun _ => q) (fun (e : thI I x 8 0 0 = 0) => absurd (thI_0.symm.trans e) hx))
  refine rf_goW rf_mo_141 rf_T_141 30 [32] (And.intro ⟨by decide, by decide⟩ (d_isNumber (n := 12) (by decide) (fun a1 => br_ne1 (And.intro (fun e => bad 2 (by decide) (h1 a1 fun q => i_nlt.mpr q.1 e)) (fun e => And.intro (fun f => ?_) (fun f => bad 2 (by decide) (h1 a1 fun q => f q.2))))) (fun a1 => br_ne0 (bad 1 (by decide) (h0 a1)))))
  have g : rf_W l 141 32 [some (.inr (.inr (some (8, 0)))), some (.inl h), some (.inl v)] [] (sS L (thI I 0) J) 0 0 Q := rf_goW rf_mo_141 rf_T_141 30 [] (And.intro (fun e => absurd (thI_0 (I := I) (x := 0)) e) (fun _ => And.intro a1 (hq a1 ⟨i_nlt.mp e, f⟩)))
  exact g
theorem d_stick {h x : Int32} (hx : x = 0 ∨ x = 1) (h0 : ¬ ok h 12 → Q (.inl none) (sS L (thI I 1) J)) (hq : ok h 12 → Q (.inl none) (sS L (rf_u3 (thI I 0) 101 2 (nn h) x) J)) : rf_C l 144 [.inr (.inr (some (8, 0))), .inl h, .inl x] (sS L I J) Q := by
  apply rf_C.ofW
  refine rf_goW rf_mo_144 rf_T_144 30 [18] (And.intro ⟨by decide, by decide⟩ (d_isNumber (n := 12) (by decide) (fun a1 => br_eq1 ?_) (fun a1 => br_eq0 ?_)))
  · have g : rf_W l 144 18 [some (.inr (.inr (some (8, 0)))), some (.inl h), some (.inl x)] [] (sS L (thI I 0) J) 0 0 Q := rf_goW rf_mo_144 rf_T_144 30 [] (And.intro (fun e => absurd (thI_0 (I := I) (x := 0)) e) (fun _ => And.intro hx (And.intro a1 (hq a1))))
    exact g
  · have g : rf_W l 144 18 [some (.inr (.inr (some (8, 0)))), some (.inl h), some (.inl x)] [] (sS L (thI I 1) J) 0 0 Q := rf_goW rf_mo_144 rf_T_144 30 [] (And.intro (fun _ => h0 a1) (fun (e : thI I 1 8 0 0 = 0) => absurd (thI_0.symm.trans e) (by decide)))
    exact g
/-- a drive's row in the model -/
def mD (I : Nat → Nat → Nat → Int32) (h : Nat) : Nat → Int32 := fun f => match f with
  | 0 => I 100 10 h
  | 1 => I 100 11 h
  | 2 => I 100 13 h
  | 3 => I 101 1 h
  | 4 => I 100 12 h
  | 5 => I 100 14 h
  | 6 => I 101 2 h
  | 7 => I 100 15 h
  | 8 => I 100 16 h
  | _ => 0
theorem d_hoist {h w : Int32} (hd : ∀ h, h < 12 → (I 100 16 h = -1 ∨ 0 ≤ I 100 16 h) ∧ (I 100 10 h = -1 ∨ ok (I 100 10 h) 6)) (h0 : ¬ ok h 12 → Q (.inl (some (.inl (-1)))) (sS L (thI I 0) J)) (hq : ok h 12 → Q (.inl (some (.inl (hoV (mD I (nn h)) (lodV (I 100 16 (nn h)) (I 100 10 (nn h)) (I 100 26)) w)))) (sS L (thI I 0) J)) : rf_C l 149 [.inr (.inr (some (8, 0))), .inl h, .inl w] (sS L I J) Q := by
  apply rf_C.ofW
  have e100 : thI I 0 100 = I 100 := thI_b (by decide)
  have e101 : thI I 0 101 = I 101 := thI_b (by decide)
  have g5 : rf_W l 149 5 [some (.inr (.inr (some (8, 0)))), some (.inl h), some (.inl w)] [] (sS L (thI I 0) J) 0 0 Q := by
    refine rf_goW rf_mo_149 rf_T_149 60 [] (And.intro ⟨by decide, by decide⟩ (d_isNumber (n := 12) (by decide) (fun a1 => br_ne1 ?_) (fun a1 => br_ne0 (h0 a1))))
    have hq' := hq a1
    unfold hoV at hq'
    refine And.intro (fun e => ?_) (fun e0 => And.intro (fun e => ?_) (fun e1 => And.intro (fun e => ?_) (fun e2 => And.intro (fun e => ?_) (fun e3 => And.intro (fun e => ?_) (fun e4 => And.intro (fun e => ?_) (fun e5 => ?_))))))
    · rw [if_pos e] at hq'; exact And.intro a1 hq'
    · rw [if_neg e0, if_pos e] at hq'; exact And.intro a1 hq'
    · rw [if_neg e0, if_neg e1, if_pos e] at hq'
      refine And.intro a1 (And.intro (fun (f : I 101 1 (nn h) = 0) => ?_) (fun (f : ¬ I 101 1 (nn h) = 0) => ?_))
      · rw [if_pos (show mD I (nn h) 3 = 0 from f)] at hq'; exact hq'
      · rw [if_neg (show ¬ mD I (nn h) 3 = 0 from f)] at hq'; exact hq'
    · rw [if_neg e0, if_neg e1, if_neg e2, if_pos e] at hq'
      have hk : ∀ x, x = Int32.ofNat (nn h) → ∀ Q' : rf_O → rf_S → Prop, Q' (.inl (some (.inl (lodV (I 100 16 (nn h)) (I 100 10 (nn h)) (I 100 26))))) (sS L (thI I 0) J) → rf_C l 132 [.inr (.inr (some (8, 0))), .inl x] (sS L (thI I 0) J) Q' := by
        rintro _ rfl Q' q
        exact d_load (I := thI I 0) a1.2 (hd _ a1.2).1 (hd _ a1.2).2 q
      exact And.intro ⟨by decide, by decide⟩ (hk _ (nn_of a1.1).symm _ hq')
    · rw [if_neg e0, if_neg e1, if_neg e2, if_neg e3, if_pos e] at hq'; exact And.intro a1 hq'
    · rw [if_neg e0, if_neg e1, if_neg e2, if_neg e3, if_neg e4, if_pos e] at hq'
      unfold ab at hq'
      refine And.intro a1 (And.intro (fun (f : 0 ≤ I 100 14 (nn h)) => ?_) (fun (f : ¬ 0 ≤ I 100 14 (nn h)) => ?_))
      · rw [if_pos (show 0 ≤ mD I (nn h) 5 from f)] at hq'; exact And.intro a1 hq'
      · rw [if_neg (show ¬ 0 ≤ mD I (nn h) 5 from f)] at hq'; exact And.intro a1 hq'
    · rw [if_neg e0, if_neg e1, if_neg e2, if_neg e3, if_neg e4, if_neg e5] at hq'; exact hq'
  exact rf_goW rf_mo_149 rf_T_149 20 [5] g5
theorem d_cue {c w : Int32} (h0 : ¬ ok c 8 → Q (.inl (some (.inl (-1)))) (sS L (thI I 0) J)) (hq : ok c 8 → Q (.inl (some (.inl (cuV (I 100 27 (nn c)) (I 100 28 (nn c)) (I 100 29 (nn c)) w)))) (sS L (thI I 0) J)) : rf_C l 153 [.inr (.inr (some (8, 0))), .inl c, .inl w] (sS L I J) Q := by
  apply rf_C.ofW
  have g5 : rf_W l 153 5 [some (.inr (.inr (some (8, 0)))), some (.inl c), some (.inl w)] [] (sS L (thI I 0) J) 0 0 Q := by
    refine rf_goW rf_mo_153 rf_T_153 60 [] (And.intro ⟨by decide, by decide⟩ (d_isNumber (n := 8) (by decide) (fun a1 => br_ne1 ?_) (fun a1 => br_ne0 (h0 a1))))
    have hq' := hq a1
    unfold cuV at hq'
    refine And.intro (fun e0 => And.intro (fun e1 => And.intro (fun e2 => ?_) (fun e => ?_)) (fun e => ?_)) (fun e => ?_)
    · rw [if_neg e0, if_neg e1, if_neg e2] at hq'; exact hq'
    · rw [if_neg e0, if_neg e1, if_pos e] at hq'; exact And.intro a1 hq'
    · rw [if_neg e0, if_pos e] at hq'; exact And.intro a1 hq'
    · rw [if_pos e] at hq'; exact And.intro a1 hq'
  exact rf_goW rf_mo_153 rf_T_153 20 [5] g5
end MF
