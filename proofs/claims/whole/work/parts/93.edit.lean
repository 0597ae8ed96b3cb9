/-! move, after, clear, undo of the class -/
section LE
variable {l : Launch} {Q : rf_O → rf_S → Prop} {L : Nat} {I : Nat → Nat → Nat → Int32} {J : Nat → Nat → Nat → Int64} {σ : rf_S}
theorem ka1 (h : Q (.inl none) σ) : rf_C l 13 [.inl 1] σ Q := c_checkArgument (fun _ => h) (fun q => absurd q (by decide))
theorem ka0 (h : Q (.inr 1) σ) : rf_C l 13 [.inl 0] σ Q := c_checkArgument (fun q => absurd rfl q) (fun _ => h)
theorem ks1 (h : Q (.inl none) σ) : rf_C l 16 [.inl 1] σ Q := c_checkState (fun _ => h) (fun q => absurd q (by decide))
theorem ks0 (h : Q (.inr 2) σ) : rf_C l 16 [.inl 0] σ Q := c_checkState (fun q => absurd rfl q) (fun _ => h)
theorem rem_1 {c f i : Nat} (h : 40 ≤ i) : remI I c 1 i f = I 1 i f := by
  have hL : jrL I < 40 := Nat.mod_lt _ (by decide)
  have : ¬ i = jrL I := by omega
  simp [remI, tkp, jrI, rf_u3, this]
theorem rem_5 {c f i : Nat} (h : 160 ≤ i) (hn : nn (I 1 (40 + c) 1) < 5) : remI I c 5 i f = I 5 i f := by
  have hL : jrL I < 40 := Nat.mod_lt _ (by decide)
  have h1 : ¬ (i < 4 * jrL I + nn (I 1 (40 + c) 1)) := by omega
  simp [remI, tkp, jrI, rf_u3, h1]
def mvA (I : Nat → Nat → Nat → Int32) (c : Nat) (p g t : Int32) : Prop := (0 ≤ g ∧ g ≤ 400) ∧ (1 ≤ t ∧ t ≤ 12) ∧ ¬ hasMv I (40 + c) p
def apI (I : Nat → Nat → Nat → Int32) (c : Nat) (p g t : Int32) : Nat → Nat → Nat → Int32 := rf_u3 (ro I 5 (4 * c + nn (I 1 c 1)) (uf (uf (uf (uf (uf (I 5 (4 * c + nn (I 1 c 1))) 0 p) 1 g) 2 t) 3 (-1)) 4 0)) 1 c 1 (I 1 c 1 + 1)
theorem c_move {c p g t : Int32} (hj : jrOk I) (h0 : ¬ (ok c 8 ∧ ok p 6) → Q (.inr 0) (sS L I J)) (h1 : ok c 8 → ok p 6 → ¬ mvA I (nn c) p g t → Q (.inr 1) (sS L I J))
    (h2 : ok c 8 → ok p 6 → mvA I (nn c) p g t → ¬ (¬ busy I (40 + nn c) ∧ ok (I 1 (40 + nn c) 1) 4) → Q (.inr 2) (sS L I J))
    (hq : ok c 8 → ok p 6 → mvA I (nn c) p g t → ¬ busy I (40 + nn c) → ok (I 1 (40 + nn c) 1) 4 → Q (.inl (some (.inl (I 1 (40 + nn c) 1 + 1 - 1)))) (sS L (apI (remI I (nn c)) (40 + nn c) p g t) J)) : rf_C l 58 [.inr (.inr (some (7, 0))), .inl c, .inl p, .inl g, .inl t] (sS L I J) Q := by
  apply rf_C.ofW
  refine rf_goW rf_mo_58 rf_T_58 90 [] (And.intro ⟨by decide, by decide⟩ (c_checkIx (n := 8) (by decide) (fun a1 => And.intro ⟨by decide, by decide⟩ (c_checkIx (n := 6) (by decide) (fun a2 => And.intro ⟨by decide, by decide⟩ (c_within2 (fun b1 => br_eq1 (And.intro ⟨by decide, by decide⟩ (c_within2 (fun b2 => br_eq1 ?_) (fun b2 => br_eq0 (And.intro ⟨by decide, by decide⟩ (ka0 (h1 a1 a2 fun q => b2 q.2.1))))))) (fun b1 => br_eq0 (And.intro ⟨by decide, by decide⟩ (ka0 (h1 a1 a2 fun q => b1 q.1)))))) (fun a2 => h0 fun q => a2 q.2))) (fun a1 => h0 fun q => a1 q.1)))
  have hc8 : nn c < 8 := a1.2
  have hcn := hj.2.2.1 (nn c) hc8
  refine And.intro a1 (And.intro ⟨by decide, by decide⟩ (c_hasMoveOf hcn (fun hm => br_ne1 (And.intro ⟨by decide, by decide⟩ (ka0 (h1 a1 a2 fun q => q.2.2 hm)))) (fun hm => br_ne0 (And.intro ⟨by decide, by decide⟩ (ka1 (And.intro a1 (And.intro ⟨by decide, by decide⟩ (c_isBusy (fun hb => br_ne1 (And.intro ⟨by decide, by decide⟩ (ks0 (h2 a1 a2 ⟨b1, b2, hm⟩ fun q => q.1 hb)))) (fun hb => br_ne0 (And.intro a1 (And.intro (fun hf => And.intro ⟨by decide, by decide⟩ (ks0 (h2 a1 a2 ⟨b1, b2, hm⟩ fun q => ?_))) (fun hf => And.intro ⟨by decide, by decide⟩ (ks1 ?_)))))))))))))
  · have q2 : nn (I 1 (40 + nn c) 1) < 4 := q.2.2
    have hf' : Int32.ofNat 4 ≤ I 1 (40 + nn c) 1 := hf
    rw [← nn_of hcn.1] at hf'
    exact absurd ((nt_le (by decide) (by omega)).mp hf') (by omega)
  · have h4 : ok (I 1 (40 + nn c) 1) 4 := by
      refine ⟨hcn.1, ?_⟩
      have hf' : ¬ Int32.ofNat 4 ≤ I 1 (40 + nn c) 1 := hf
      have hlt : nn (I 1 (40 + nn c) 1) < 5 := hcn.2
      show nn (I 1 (40 + nn c) 1) < 4
      rw [← nn_of hcn.1] at hf'
      exact Nat.lt_of_not_le fun q => hf' ((nt_le (by decide) (by omega)).mpr q)
    have hq' := hq a1 a2 ⟨b1, b2, hm⟩ hb h4
    have er : remI I (nn c) 1 (40 + nn c) 1 = I 1 (40 + nn c) 1 := rem_1 (by omega)
    have ec := nn_of a1.1
    have hk : ∀ c', c' = Int32.ofNat (nn c) → rf_C l 52 [.inr (.inr (some (7, 0))), .inl c'] (sS L I J) fun o σ' => o = .inl none ∧ σ' = sS L (remI I (nn c)) J := by
      rintro _ rfl
      exact c_rememberEdit hc8 hj.1 hj.2.1 hcn ⟨rfl, rfl⟩
    refine And.intro ⟨by decide, by decide⟩ ((hk c ec.symm).mono ?_)
    rintro _ _ ⟨rfl, rfl⟩
    refine And.intro a1 (And.intro ⟨by decide, by decide⟩ (c_append (by show ok (remI I (nn c) 1 (40 + nn c) 1) 4; rw [er]; exact h4) ?_))
    show Q (.inl (some (.inl (remI I (nn c) 1 (40 + nn c) 1 + 1 - 1)))) _
    rw [er]
    exact hq'
def afA (c : Int32) (m o a : Int32) : Prop := o = -1 ∨ ((0 ≤ o ∧ o ≤ m - 1) ∧ (0 ≤ a ∧ a ≤ 400))
def afV (o a : Int32) : Int32 := if o = -1 then 0 else a
theorem c_after {c m o a : Int32} (hj : jrOk I) (h0 : ¬ (ok c 8 ∧ ok m (nn (I 1 (40 + nn c) 1))) → Q (.inr 0) (sS L I J)) (h1 : ok c 8 → ok m (nn (I 1 (40 + nn c) 1)) → ¬ afA c m o a → Q (.inr 1) (sS L I J))
    (h2 : ok c 8 → ok m (nn (I 1 (40 + nn c) 1)) → afA c m o a → busy I (40 + nn c) → Q (.inr 2) (sS L I J))
    (hq : ok c 8 → ok m (nn (I 1 (40 + nn c) 1)) → afA c m o a → ¬ busy I (40 + nn c) → Q (.inl none) (sS L (rf_u3 (rf_u3 (remI I (nn c)) 5 (4 * (40 + nn c) + nn m) 3 o) 5 (4 * (40 + nn c) + nn m) 4 (afV o a)) J)) : rf_C l 61 [.inr (.inr (some (7, 0))), .inl c, .inl m, .inl o, .inl a] (sS L I J) Q := by
  apply rf_C.ofW
  refine rf_goW rf_mo_61 rf_T_61 90 [52] (And.intro ⟨by decide, by decide⟩ (c_checkIx (n := 8) (by decide) (fun a1 => And.intro a1 ?_) (fun a1 => h0 fun q => a1 q.1)))
  have hc8 : nn c < 8 := a1.2
  have hcn := hj.2.2.1 (nn c) hc8
  have h5 : nn (I 1 (40 + nn c) 1) < 5 := hcn.2
  have hk : ∀ x, x = Int32.ofNat (nn (I 1 (40 + nn c) 1)) → ∀ Q' : rf_O → rf_S → Prop, (ok m (nn (I 1 (40 + nn c) 1)) → Q' (.inl none) (sS L I J)) → (¬ ok m (nn (I 1 (40 + nn c) 1)) → Q' (.inr 0) (sS L I J)) → rf_C l 9 [.inl m, .inl x] (sS L I J) Q' := by
    rintro _ rfl Q' q1 q2
    exact c_checkIx (by omega) q1 q2
  refine And.intro ⟨by decide, by decide⟩ (hk _ (nn_of hcn.1).symm _ (fun a2 => ?_) (fun a2 => h0 fun q => a2 q.2))
  have hm4 : ok m 4 := ⟨a2.1, by have : nn m < nn (I 1 (40 + nn c) 1) := a2.2
                                 show nn m < 4
                                 omega⟩
  have bad : ¬ afA c m o a → rf_W l 61 52 [some (.inr (.inr (some (7, 0)))), some (.inl c), some (.inl m), some (.inl o), some (.inl a)] [.inl 0] (sS L I J) 2 12 Q := fun hb => rf_goW rf_mo_61 rf_T_61 60 [] (And.intro ⟨by decide, by decide⟩ (ka0 (h1 a1 a2 hb)))
  have good : afA c m o a → rf_W l 61 52 [some (.inr (.inr (some (7, 0)))), some (.inl c), some (.inl m), some (.inl o), some (.inl a)] [.inl 1] (sS L I J) 2 12 Q := by
    intro ha
    refine rf_goW rf_mo_61 rf_T_61 90 [] (And.intro ⟨by decide, by decide⟩ (ka1 (And.intro a1 (And.intro ⟨by decide, by decide⟩ (c_isBusy (fun hb => br_ne1 (And.intro ⟨by decide, by decide⟩ (ks0 (h2 a1 a2 ha hb)))) (fun hb => br_ne0 (And.intro ⟨by decide, by decide⟩ (ks1 ?_))))))))
    have hq' := hq a1 a2 ha hb
    have hk2 : ∀ c', c' = Int32.ofNat (nn c) → rf_C l 52 [.inr (.inr (some (7, 0))), .inl c'] (sS L I J) fun o σ' => o = .inl none ∧ σ' = sS L (remI I (nn c)) J := by
      rintro _ rfl
      exact c_rememberEdit hc8 hj.1 hj.2.1 hcn ⟨rfl, rfl⟩
    refine And.intro ⟨by decide, by decide⟩ ((hk2 c (nn_of a1.1).symm).mono ?_)
    rintro _ _ ⟨rfl, rfl⟩
    refine And.intro a1 (And.intro hm4 (And.intro a1 (And.intro hm4 (And.intro (fun e => ?_) (fun e => ?_)))))
    · rw [afV, if_neg e] at hq'
      exact hq'
    · rw [afV, if_pos e] at hq'
      exact hq'
  refine And.intro (fun e => good (Or.inl e)) (fun e => And.intro ⟨by decide, by decide⟩ (c_within2 (fun b1 => br_eq1 (And.intro ⟨by decide, by decide⟩ (c_within2 (fun b2 => br_eq1 (good (Or.inr ⟨b1, b2⟩))) (fun b2 => br_eq0 (bad fun q => q.elim e fun r => b2 r.2))))) (fun b1 => br_eq0 (bad fun q => q.elim e fun r => b1 r.1))))
theorem c_clear {c : Int32} (hj : jrOk I) (h0 : ¬ ok c 8 → Q (.inr 0) (sS L I J)) (h2 : ok c 8 → busy I (40 + nn c) → Q (.inr 2) (sS L I J))
    (hq : ok c 8 → ¬ busy I (40 + nn c) → Q (.inl none) (sS L (rf_u3 (remI I (nn c)) 1 (40 + nn c) 1 0) J)) : rf_C l 64 [.inr (.inr (some (7, 0))), .inl c] (sS L I J) Q := by
  apply rf_C.ofW
  refine rf_goW rf_mo_64 rf_T_64 60 [] (And.intro ⟨by decide, by decide⟩ (c_checkIx (n := 8) (by decide) (fun a1 => And.intro a1 (And.intro ⟨by decide, by decide⟩ (c_isBusy (fun hb => br_ne1 (And.intro ⟨by decide, by decide⟩ (ks0 (h2 a1 hb)))) (fun hb => br_ne0 (And.intro ⟨by decide, by decide⟩ (ks1 ?_)))))) h0))
  have hc8 : nn c < 8 := a1.2
  have hq' := hq a1 hb
  have hk2 : ∀ c', c' = Int32.ofNat (nn c) → rf_C l 52 [.inr (.inr (some (7, 0))), .inl c'] (sS L I J) fun o σ' => o = .inl none ∧ σ' = sS L (remI I (nn c)) J := by
    rintro _ rfl
    exact c_rememberEdit hc8 hj.1 hj.2.1 (hj.2.2.1 _ hc8) ⟨rfl, rfl⟩
  refine And.intro ⟨by decide, by decide⟩ ((hk2 c (nn_of a1.1).symm).mono ?_)
  rintro _ _ ⟨rfl, rfl⟩
  exact And.intro a1 hq'
/-- the latest edit undone: the cue k -/
def undI (I : Nat → Nat → Nat → Int32) : Nat → Nat → Nat → Int32 := rf_u3 (drpI (tkp I (40 + nn (I 100 6 (nn (I 3 0 2)))) (nn (I 3 0 2)) (nn (I 1 (nn (I 3 0 2)) 1)))) 7 0 11 (I 7 0 11 - 1)
def undC (I : Nat → Nat → Nat → Int32) : Prop := ¬ I 3 0 3 = 0 ∧ ¬ busy I (40 + nn (I 100 6 (nn (I 3 0 2))))
theorem c_undo (hj : jrOk I) (h0 : ¬ undC I → Q (.inl (some (.inl 0))) (sS L I J)) (hq : undC I → Q (.inl (some (.inl 1))) (sS L (undI I) J)) : rf_C l 70 [.inr (.inr (some (7, 0)))] (sS L I J) Q := by
  apply rf_C.ofW
  have hl := hj.1
  have hL : nn (I 3 0 2) < 40 := hl.2
  obtain ⟨hk1, hk2⟩ := hj.2.2.2 (nn (I 3 0 2)) hL
  refine rf_goW rf_mo_70 rf_T_70 90 [] (And.intro (fun e => And.intro (Or.inl rfl) (h0 fun q => q.1 e)) (fun e => And.intro ⟨by decide, by decide⟩ (c_latestCue hl (And.intro hk2 (And.intro ⟨by decide, by decide⟩ (c_isBusy (fun hb => br_eq1 (And.intro (Or.inl rfl) (h0 fun q => q.2 hb))) (fun hb => br_eq0 ?_)))))))
  have hq' := hq ⟨e, hb⟩
  refine And.intro ⟨by decide, by decide⟩ (c_latestCue hl (And.intro hk2 (And.intro ⟨by decide, by decide⟩ (c_latestPlan hl (And.intro ⟨by decide, by decide⟩ (c_takePlan (c := 40 + nn (I 100 6 (nn (I 3 0 2)))) (d := nn (I 3 0 2)) (by omega) hk1 (And.intro ⟨by decide, by decide⟩ (c_dropLatest (I := tkp I (40 + nn (I 100 6 (nn (I 3 0 2)))) (nn (I 3 0 2)) (nn (I 1 (nn (I 3 0 2)) 1))) hl ?_))))))))
  have e7 : (drpI (tkp I (40 + nn (I 100 6 (nn (I 3 0 2)))) (nn (I 3 0 2)) (nn (I 1 (nn (I 3 0 2)) 1)))) 7 0 11 = I 7 0 11 := by simp [drpI, tkp, rf_u3]
  rw [undI, ← e7] at hq'
  exact And.intro (Or.inr rfl) hq'
end LE
