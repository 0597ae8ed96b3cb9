/-! the model: clearReason -/
section MK
variable {l : Launch} {Q : rf_O → rf_S → Prop} {L : Nat} {I : Nat → Nat → Nat → Int32} {J : Nat → Nat → Nat → Int64} {σ : rf_S}
theorem rsM_th {p a x : Int32} : rsM (thI I x) p a = rsM I p a := by
  unfold rsM rA1 rA2 rA4
  rw [thI_b (I := I) (x := x) (b := 100) (by decide), thI_b (I := I) (x := x) (b := 101) (by decide)]
theorem rsM_le {p a : Int32} : rsM I p a ≤ 0 ↔ rsM I p a = 0 := by
  unfold rsM
  by_cases h1 : ∃ j, j < 12 ∧ rA1 I p j
  · rw [cif_t h1]; decide
  · rw [cif_f h1]
    by_cases h2 : ∃ j, j < 12 ∧ rA2 I p a j
    · rw [cif_t h2]; decide
    · rw [cif_f h2]
      by_cases h3 : 15 < hghG (I 100 10) (I 100 11) p 12 - lowG (I 100 10) (I 100 11) p 12
      · rw [cif_t h3]; decide
      · rw [cif_f h3]
        by_cases h4 : ∃ j, j < 12 ∧ rA4 I p j
        · rw [cif_t h4]; decide
        · rw [cif_f h4]; decide
noncomputable def crM (I : Nat → Nat → Nat → Int32) (p : Int32) : Prop := ¬ I 101 3 (nn p) = 0 ∧ ¬ I 100 25 (nn p) = 0 ∧ rsM I p (lowF (I 100 10) (I 100 11) p 12) = 0
theorem d_clearReason {p : Int32} (hd : ∀ h, h < 12 → (I 100 16 h = -1 ∨ 0 ≤ I 100 16 h) ∧ (I 100 10 h = -1 ∨ ok (I 100 10 h) 6)) (hx : ¬ ok p 6 → Q (.inl (some (.inl 0))) (sS L (thI I 1) J)) (h0 : ok p 6 → ¬ crM I p → Q (.inl (some (.inl 0))) (sS L (thI I 0) J))
    (hq : ok p 6 → crM I p → Q (.inl (some (.inl 1))) (sS L (rf_u3 (rf_u3 (rf_u3 (thI I 0) 100 25 (nn p) 0) 100 23 (nn p) (lowF (I 100 10) (I 100 11) p 12)) 100 24 (nn p) 0) J)) : rf_C l 147 [.inr (.inr (some (8, 0))), .inl p] (sS L I J) Q := by
  apply rf_C.ofW
  refine rf_goW rf_mo_147 rf_T_147 30 [18] (And.intro ⟨by decide, by decide⟩ (d_isNumber (n := 6) (by decide) (fun a1 => br_eq1 ?_) (fun a1 => br_eq0 ?_)))
  · have hq' := hq a1
    have g94 : ¬ I 101 3 (nn p) = 0 → ¬ I 100 25 (nn p) = 0 → rf_W l 147 94 [some (.inr (.inr (some (8, 0)))), some (.inl p), some (.inl (lowF (I 100 10) (I 100 11) p 12)), some (.inl (Int32.ofNat 12))] [] (sS L (thI I 0) J) 0 0 Q := by
      intro b1 b2
      refine rf_goW rf_mo_147 rf_T_147 60 [] (And.intro ⟨by decide, by decide⟩ (d_reasonAt (I := thI I 0) a1 hd ?_))
      rw [rsM_th]
      exact And.intro (fun e => And.intro a1 (And.intro a1 (And.intro a1 (And.intro (Or.inr rfl) (hq' ⟨b1, b2, rsM_le.mp e⟩))))) (fun e => And.intro (Or.inl rfl) (h0 a1 fun q => e (rsM_le.mpr q.2.2)))
    have key : ¬ I 101 3 (nn p) = 0 → ¬ I 100 25 (nn p) = 0 → ∀ i, i ≤ 12 → rf_W l 147 51 [some (.inr (.inr (some (8, 0)))), some (.inl p), some (.inl (lowF (I 100 10) (I 100 11) p i)), some (.inl (Int32.ofNat i))] [] (sS L (thI I 0) J) 0 0 Q := by
      intro b1 b2
      refine lp_dn ?_ ?_
      · exact rf_goW rf_mo_147 rf_T_147 60 [51, 94] (And.intro (fun _ => g94 b1 b2) (fun hd => absurd (Int32.le_refl _) hd))
      · intro i hi ih
        have i12 := nt_ix (n := 12) hi (by decide)
        rw [← nt_succ i, lowF] at ih
        have g87 : ∀ z, z = (if I 100 10 i = p then mn (lowF (I 100 10) (I 100 11) p i) (I 100 11 i) else lowF (I 100 10) (I 100 11) p i) → rf_W l 147 87 [some (.inr (.inr (some (8, 0)))), some (.inl p), some (.inl (lowF (I 100 10) (I 100 11) p i)), some (.inl (Int32.ofNat i))] [.inl z] (sS L (thI I 0) J) 0 0 Q := by
          rintro _ rfl
          exact rf_goW rf_mo_147 rf_T_147 60 [51] ih
        refine rf_goW rf_mo_147 rf_T_147 60 [51, 87] (And.intro (fun hd => absurd ((nt_le (i := 12) (by omega) (by omega)).mp hd) (by omega)) (fun _ => And.intro i12 ?_))
        rw [nt_cl (by omega)]
        refine And.intro (fun (e : ¬ I 100 10 i = p) => g87 _ (if_neg e).symm) (fun (e : I 100 10 i = p) => And.intro i12 ?_)
        rw [nt_cl (by omega)]
        refine And.intro (fun (f : lowF (I 100 10) (I 100 11) p i ≤ I 100 11 i) => g87 _ ?_) (fun (f : ¬ lowF (I 100 10) (I 100 11) p i ≤ I 100 11 i) => And.intro i12 ?_)
        · rw [if_pos e, mn, if_neg (i_nlt.mpr f)]
        · rw [nt_cl (by omega)]
          refine g87 _ ?_
          rw [if_pos e, mn, if_pos (i_nle.mp f)]
          rfl
    have g : rf_W l 147 18 [some (.inr (.inr (some (8, 0)))), some (.inl p), none, none] [] (sS L (thI I 0) J) 0 0 Q := by
      refine rf_goW rf_mo_147 rf_T_147 60 [51] (And.intro (fun (e : 0 < thI I 0 8 0 0) => absurd e (by rw [thI_0]; decide)) (fun _ => And.intro a1 (And.intro (fun (b : I 101 3 (nn p) = 0) => And.intro (Or.inl rfl) (h0 a1 fun q => q.1 b)) (fun (b1 : ¬ I 101 3 (nn p) = 0) => And.intro a1 (And.intro (fun (b2 : ¬ I 100 25 (nn p) = 0) => key b1 b2 0 (by omega)) (fun (b2 : I 100 25 (nn p) = 0) => And.intro (Or.inl rfl) (h0 a1 fun q => q.2.1 b2)))))))
    exact g
  · have g : rf_W l 147 18 [some (.inr (.inr (some (8, 0)))), some (.inl p), none, none] [] (sS L (thI I 1) J) 0 0 Q := rf_goW rf_mo_147 rf_T_147 60 [] (And.intro (fun _ => And.intro (Or.inl rfl) (hx a1)) (fun (e : ¬ 0 < thI I 1 8 0 0) => absurd (show (0 : Int32) < thI I 1 8 0 0 by rw [thI_0]; decide) e))
    exact g
end MK
