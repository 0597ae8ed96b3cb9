/-! the model: moveOf, meets, go, halt, apart, piece -/
section MG
variable {l : Launch} {Q : rf_O → rf_S → Prop} {L : Nat} {I : Nat → Nat → Nat → Int32} {J : Nat → Nat → Nat → Int64} {σ : rf_S}
def mR (I : Nat → Nat → Nat → Int32) (i : Nat) : Nat → Int32 := fun f => I 100 (30 + f) i
theorem d_moveOf {c m w : Int32} (hn : ∀ c, c < 8 → ok (I 100 29 c) 5) (h0 : ¬ (ok c 8 ∧ ok m (nn (I 100 29 (nn c)))) → Q (.inl (some (.inl (-1)))) (sS L (thI I 0) J))
    (hq : ok c 8 → ok m (nn (I 100 29 (nn c))) → Q (.inl (some (.inl (moV (mR I (4 * nn c + nn m)) w)))) (sS L (thI I 0) J)) : rf_C l 155 [.inr (.inr (some (8, 0))), .inl c, .inl m, .inl w] (sS L I J) Q := by
  apply rf_C.ofW
  have g5 : rf_W l 155 5 [some (.inr (.inr (some (8, 0)))), some (.inl c), some (.inl m), some (.inl w), none] [] (sS L (thI I 0) J) 0 0 Q := by
    refine rf_goW rf_mo_155 rf_T_155 60 [] (And.intro ⟨by decide, by decide⟩ (d_isNumber (n := 8) (by decide) (fun a1 => br_eq1 (And.intro a1 ?_)) (fun a1 => br_eq0 (h0 fun q => a1 q.1))))
    have hcn : ok (I 100 29 (nn c)) 5 := hn _ a1.2
    have h5 : nn (I 100 29 (nn c)) < 5 := hcn.2
    have hk : ∀ x, x = Int32.ofNat (nn (I 100 29 (nn c))) → ∀ Q' : rf_O → rf_S → Prop, (ok m (nn (I 100 29 (nn c))) → Q' (.inl (some (.inl 1))) (sS L (thI I 0) J)) → (¬ ok m (nn (I 100 29 (nn c))) → Q' (.inl (some (.inl 0))) (sS L (thI I 0) J)) → rf_C l 27 [.inl m, .inl x] (sS L (thI I 0) J) Q' := by
      rintro _ rfl Q' q1 q2
      exact d_isNumber (by omega) q1 q2
    refine And.intro ⟨by decide, by decide⟩ (hk _ (nn_of hcn.1).symm _ (fun a2 => br_ne1 ?_) (fun a2 => br_ne0 (h0 fun q => a2 q.2)))
    have hc8 : nn c < 8 := a1.2
    have hm4 : nn m < 4 := by have : nn m < nn (I 100 29 (nn c)) := a2.2
                              omega
    have i32 := ix32 hc8 hm4
    have n4 := nn4 hc8 hm4
    rw [nn_of a1.1, nn_of a2.1] at i32 n4
    have hq' := hq a1 a2
    unfold moV at hq'
    rw [← n4] at hq'
    refine And.intro (fun e => ?_) (fun e0 => And.intro (fun e => ?_) (fun e1 => And.intro (fun e => ?_) (fun e2 => And.intro (fun e => ?_) (fun e3 => And.intro (fun e => ?_) (fun e4 => ?_)))))
    · rw [if_pos e] at hq'; exact And.intro i32 hq'
    · rw [if_neg e0, if_pos e] at hq'; exact And.intro i32 hq'
    · rw [if_neg e0, if_neg e1, if_pos e] at hq'; exact And.intro i32 hq'
    · rw [if_neg e0, if_neg e1, if_neg e2, if_pos e] at hq'; exact And.intro i32 hq'
    · rw [if_neg e0, if_neg e1, if_neg e2, if_neg e3, if_pos e] at hq'; exact And.intro i32 hq'
    · rw [if_neg e0, if_neg e1, if_neg e2, if_neg e3, if_neg e4] at hq'; exact hq'
  exact rf_goW rf_mo_155 rf_T_155 20 [5] g5
def meM (I : Nat → Nat → Nat → Int32) (a b : Int32) : Prop := ok a 6 ∧ ok b 6 ∧ ¬ a = b ∧ ¬ I 101 3 (nn a) = 0 ∧ ¬ I 101 3 (nn b) = 0 ∧ bsd I (nn a) (nn b) ∧ hov I (nn a) (nn b) (I 100 23 (nn a)) (I 100 23 (nn b))
theorem d_meets {a b : Int32} (h1 : meM I a b → Q (.inl (some (.inl 1))) (sS L (thI I 0) J)) (h0 : ¬ meM I a b → Q (.inl (some (.inl 0))) (sS L (thI I 0) J)) : rf_C l 158 [.inr (.inr (some (8, 0))), .inl a, .inl b] (sS L I J) Q := by
  apply rf_C.ofW
  have g5 : rf_W l 158 5 [some (.inr (.inr (some (8, 0)))), some (.inl a), some (.inl b)] [] (sS L (thI I 0) J) 0 0 Q := by
    refine rf_goW rf_mo_158 rf_T_158 60 [] (And.intro ⟨by decide, by decide⟩ (d_isNumber (n := 6) (by decide) (fun a1 => br_eq1 (And.intro ⟨by decide, by decide⟩ (d_isNumber (n := 6) (by decide) (fun a2 => br_eq1 (And.intro (fun e => And.intro (Or.inl rfl) (h0 fun q => q.2.2.1 e)) (fun e => And.intro a1 (And.intro (fun f => And.intro (Or.inl rfl) (h0 fun q => q.2.2.2.1 f)) (fun f => And.intro a2 (And.intro (fun g => And.intro (Or.inl rfl) (h0 fun q => q.2.2.2.2.1 g)) (fun g => And.intro a1 (And.intro a2 ?_)))))))) (fun a2 => br_eq0 (And.intro (Or.inl rfl) (h0 fun q => a2 q.2.1)))))) (fun a1 => br_eq0 (And.intro (Or.inl rfl) (h0 fun q => a1 q.1)))))
    refine And.intro ⟨by decide, by decide⟩ (d_meetAt (I := thI I 0) a1 a2 (fun k => br_eq1 (And.intro (Or.inr rfl) (h1 ⟨a1, a2, e, f, g, ?_⟩))) (fun k => br_eq0 (And.intro (Or.inl rfl) (h0 fun q => k ?_))))
    · exact k
    · exact q.2.2.2.2.2
  exact rf_goW rf_mo_158 rf_T_158 20 [5] g5
theorem ro_b8 {i : Nat} {g : Nat → Int32} {x : Int32} : ro (thI I x) 100 i g 8 0 0 = x := by rw [ro_b (by decide), thI_0]
theorem d_go {s : Int32} (h0 : ¬ ok s 3 → Q (.inl (some (.inl 0))) (sS L (thI I 1) J)) (h2 : ok s 3 → I 101 4 (nn s) = 0 → Q (.inl (some (.inl 0))) (sS L (thI I 2) J))
    (hq : ok s 3 → ¬ I 101 4 (nn s) = 0 → ∀ r, r = goF (I 100 28) s (I 100 27) 8 → Q (.inl (some (.inl r.2))) (sS L (ro (thI I 0) 100 27 r.1) J)) : rf_C l 96 [.inr (.inr (some (8, 0))), .inl s] (sS L I J) Q := by
  apply rf_C.ofW
  have bad : ∀ x, ¬ x = 0 → Q (.inl (some (.inl 0))) (sS L (thI I x) J) → rf_W l 96 30 [some (.inr (.inr (some (8, 0)))), some (.inl s), none, none] [] (sS L (thI I x) J) 0 0 Q := fun x hx q => rf_goW rf_mo_96 rf_T_96 30 [] (And.intro (fun hd => absurd hd (by decide)) (fun _ => And.intro (fun _ => q) (fun (e : thI I x 8 0 0 = 0) => absurd (thI_0.symm.trans e) hx)))
  refine rf_goW rf_mo_96 rf_T_96 30 [30] (And.intro ⟨by decide, by decide⟩ (d_isNumber (n := 3) (by decide) (fun a1 => br_ne1 (And.intro a1 (And.intro (fun e => bad 2 (by decide) (h2 a1 e)) (fun e => ?_)))) (fun a1 => br_ne0 (bad 1 (by decide) (h0 a1)))))
  have key : ∀ c, c ≤ 8 → ∀ r, r = goF (I 100 28) s (I 100 27) c → rf_W l 96 34 [some (.inr (.inr (some (8, 0)))), some (.inl s), some (.inl r.2), some (.inl (Int32.ofNat c))] [] (sS L (ro (thI I 0) 100 27 r.1) J) 0 0 Q := by
    refine lp_dn ?_ ?_
    · intro r hr
      exact rf_goW rf_mo_96 rf_T_96 60 [34] (And.intro (fun _ => hq a1 e r hr) (fun hd => absurd (Int32.le_refl _) hd))
    · intro c hi ih r hr
      have i8 := nt_ix (n := 8) hi (by decide)
      rw [← nt_succ c] at ih
      have e28 : ro (thI I 0) 100 27 r.1 100 28 c = I 100 28 c := by rw [ro_ne (by decide), thI_b (by decide)]
      have e27 : ro (thI I 0) 100 27 r.1 100 27 c = r.1 c := by rw [ro_self]
      refine rf_goW rf_mo_96 rf_T_96 60 [34, 80, 90] (And.intro (fun hd => absurd ((nt_le (i := 8) (by omega) (by omega)).mp hd) (by omega)) (fun _ => And.intro (fun hd => absurd (ro_b8 (I := I) (i := 27) (g := r.1) (x := 0)) hd) (fun _ => And.intro i8 ?_)))
      rw [nt_cl (by omega)]
      have yes : I 100 28 c = s → (r.1 c = 1 ∨ r.1 c = 3) → rf_W l 96 80 [some (.inr (.inr (some (8, 0)))), some (.inl s), some (.inl r.2), some (.inl (Int32.ofNat c))] [] (sS L (ro (thI I 0) 100 27 r.1) J) 0 0 Q := by
        intro q1 q2
        refine rf_goW rf_mo_96 rf_T_96 60 [34] (And.intro i8 ?_)
        rw [nt_cl (by omega)]
        have es : rf_u3 (ro (thI I 0) 100 27 r.1) 100 27 c 2 = ro (thI I 0) 100 27 (uf r.1 c 2) := by rw [u3_ro, ro_self, ro_ro]
        have q := ih (uf r.1 c 2, r.2 + 1) (by rw [goF, ← hr, cif_t ⟨q1, q2⟩])
        rw [← es] at q
        exact q
      have no : ¬ (I 100 28 c = s ∧ (r.1 c = 1 ∨ r.1 c = 3)) → rf_W l 96 90 [some (.inr (.inr (some (8, 0)))), some (.inl s), some (.inl r.2), some (.inl (Int32.ofNat c))] [] (sS L (ro (thI I 0) 100 27 r.1) J) 0 0 Q := fun q => rf_goW rf_mo_96 rf_T_96 60 [34] (ih r (by rw [goF, ← hr, cif_f q]))
      refine And.intro (fun f => no fun q => f (e28.trans q.1)) (fun f => And.intro i8 ?_)
      rw [nt_cl (by omega)]
      refine And.intro (fun g => yes (e28.symm.trans f) (Or.inl (e27.symm.trans g))) (fun g => And.intro i8 ?_)
      rw [nt_cl (by omega)]
      exact And.intro (fun k => yes (e28.symm.trans f) (Or.inr (e27.symm.trans k))) (fun k => no fun q => q.2.elim (fun u => g (e27.trans u)) (fun u => k (e27.trans u)))
  have k0 := key 0 (by omega) _ rfl
  rw [goF] at k0
  have e0 : ro (thI I 0) 100 27 (I 100 27) = thI I 0 := by
    have : thI I 0 100 = I 100 := thI_b (by decide)
    rw [← this, ro_id]
  rw [e0] at k0
  have g : rf_W l 96 30 [some (.inr (.inr (some (8, 0)))), some (.inl s), none, none] [] (sS L (thI I 0) J) 0 0 Q := rf_goW rf_mo_96 rf_T_96 30 [34] k0
  exact g
end MG
