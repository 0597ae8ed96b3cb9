/-! the model: piece -/
section MJ
variable {l : Launch} {Q : rf_O → rf_S → Prop} {L : Nat} {I : Nat → Nat → Nat → Int32} {J : Nat → Nat → Nat → Int64} {σ : rf_S}
theorem d_piece {p w : Int32} (h0 : ¬ (ok p 6 ∧ ok w 6) → Q (.inl (some (.inl (-1)))) (sS L (thI I 0) J)) (h1 : ok p 6 → ok w 6 → I 101 3 (nn p) = 0 → Q (.inl (some (.inl 0))) (sS L (thI I 0) J))
    (hq : ok p 6 → ok w 6 → ¬ I 101 3 (nn p) = 0 → Q (.inl (some (.inl (piV (I 100 23 (nn p)) (I 100 24 (nn p)) (I 100 25 (nn p)) (hghG (I 100 10) (I 100 11) p 12 - lowG (I 100 10) (I 100 11) p 12) (I 100 26 (nn p)) w)))) (sS L (thI I 0) J)) : rf_C l 151 [.inr (.inr (some (8, 0))), .inl p, .inl w] (sS L I J) Q := by
  apply rf_C.ofW
  have g5 : rf_W l 151 5 [some (.inr (.inr (some (8, 0)))), some (.inl p), some (.inl w)] [] (sS L (thI I 0) J) 0 0 Q := by
    refine rf_goW rf_mo_151 rf_T_151 60 [] (And.intro ⟨by decide, by decide⟩ (d_isNumber (n := 6) (by decide) (fun a1 => br_eq1 (And.intro (fun e => h0 fun q => i_nlt.mpr q.2.1 e) (fun e => And.intro (fun f => ?_) (fun f => h0 fun q => f ((wi_ok (n := 5) (by decide)).mpr q.2).2)))) (fun a1 => br_eq0 (h0 fun q => a1 q.1))))
    have a2 : ok w 6 := (wi_ok (n := 5) (by decide)).mp ⟨i_nlt.mp e, f⟩
    have h1' := h1 a1 a2
    have hq' := hq a1 a2
    unfold piV at hq'
    refine And.intro (fun e0 => And.intro a1 (And.intro (fun (g : ¬ I 101 3 (nn p) = 0) => ?_) (fun (g : I 101 3 (nn p) = 0) => h1' g))) (fun e0 => And.intro a1 (And.intro (fun (g : I 101 3 (nn p) = 0) => h1' g) (fun (g : ¬ I 101 3 (nn p) = 0) => ?_)))
    · have hq2 := hq' g
      rw [if_neg e0] at hq2
      refine And.intro (fun e1 => And.intro (fun e2 => And.intro (fun e3 => And.intro (fun e4 => ?_) (fun e4 => ?_)) (fun e3 => ?_)) (fun e2 => ?_)) (fun e1 => ?_)
      · rw [if_neg e1, if_neg e2, if_neg e3, if_neg e4] at hq2; exact And.intro a1 hq2
      · rw [if_neg e1, if_neg e2, if_neg e3, if_pos e4] at hq2; exact And.intro ⟨by decide, by decide⟩ (d_apart hq2)
      · rw [if_neg e1, if_neg e2, if_pos e3] at hq2; exact And.intro a1 hq2
      · rw [if_neg e1, if_pos e2] at hq2; exact And.intro a1 hq2
      · rw [if_pos e1] at hq2; exact And.intro a1 hq2
    · have hq2 := hq' g
      rw [if_pos e0] at hq2
      exact hq2
  exact rf_goW rf_mo_151 rf_T_151 20 [5] g5
end MJ
