/-! the model: mayArm -/
section MO
variable {l : Launch} {Q : rf_O → rf_S → Prop} {L : Nat} {I : Nat → Nat → Nat → Int32} {J : Nat → Nat → Nat → Int64} {σ : rf_S}
def mrdy (I : Nat → Nat → Nat → Int32) (c j : Nat) : Prop := ¬ I 101 3 (nn (mP I c 0 j)) = 0 ∧ I 100 25 (nn (mP I c 0 j)) = 0 ∧ ∀ o, o < 8 → ¬ mz I (mP I c 0 j) o
def marC (I : Nat → Nat → Nat → Int32) (c : Nat) : Prop := ¬ bsy (I 100 27 c) ∧ ¬ I 100 29 c ≤ 0 ∧ ∀ j, j < mN I c → mrdy I c j
theorem d_mayArm {c : Nat} (hc : c < 8) (hN : ∀ c, c < 8 → ok (I 100 29 c) 5) (hp : ∀ j, j < mN I c → ok (mP I c 0 j) 6) (h1 : marC I c → Q (.inl (some (.inl 1))) (sS L I J)) (h0 : ¬ marC I c → Q (.inl (some (.inl 0))) (sS L I J)) : rf_C l 84 [.inr (.inr (some (8, 0))), .inl (Int32.ofNat c)] (sS L I J) Q := by
  apply rf_C.ofW
  have i8 := nt_ix (n := 8) hc (by decide)
  have hn := hN c hc
  have hb : nn (I 100 29 c) < 5 := hn.2
  have bad : ¬ marC I c → ∀ (i : Int32) (v : Option rf_V), rf_W l 84 25 [some (.inr (.inr (some (8, 0)))), some (.inl (Int32.ofNat c)), some (.inl 0), some (.inl i), v] [] (sS L I J) 0 0 Q := fun q i v => rf_goW rf_mo_84 rf_T_84 30 [] (And.intro i8 (And.intro (fun _ => And.intro (Or.inl rfl) (h0 q)) (fun _ => br_eq0 (And.intro (Or.inl rfl) (h0 q)))))
  have key : ¬ bsy (I 100 27 c) → ¬ I 100 29 c ≤ 0 → ∀ i, i ≤ mN I c → (∀ j, j < i → mrdy I c j) → rf_W l 84 25 [some (.inr (.inr (some (8, 0)))), some (.inl (Int32.ofNat c)), some (.inl 1), some (.inl (Int32.ofNat i)), none] [] (sS L I J) 0 0 Q := by
    intro b1 b2
    refine lp_dn ?_ ?_
    · intro hj
      refine rf_goW rf_mo_84 rf_T_84 30 [25] (And.intro i8 ?_)
      rw [nt_cl (by omega)]
      exact And.intro (fun _ => And.intro (Or.inr rfl) (h1 ⟨b1, b2, hj⟩)) (fun hd => absurd ((nn_le hn.1 (by show nn _ < _; omega)).mpr (Nat.le_refl _)) hd)
    · intro i hi ih hj
      have hi4 : i < 4 := by have : i < nn (I 100 29 c) := hi
                             omega
      rw [← nt_succ i] at ih
      refine rf_goW rf_mo_84 rf_T_84 60 [25] (And.intro i8 ?_)
      rw [nt_cl (by omega)]
      refine And.intro (fun hd => absurd ((nn_le hn.1 (by omega)).mp hd) (by have : i < nn (I 100 29 c) := hi
                                                                             omega)) (fun _ => br_eq1 (And.intro (ix32 hc hi4) ?_))
      rw [nn4 hc hi4]
      have op : ok (mP I c 0 i) 6 := hp i hi
      refine And.intro op (And.intro (fun (e : I 101 3 (nn (mP I c 0 i)) = 0) => bad (fun q => (q.2.2 i hi).1 e) _ _) (fun (e : ¬ I 101 3 (nn (mP I c 0 i)) = 0) => And.intro op (And.intro (fun (f : ¬ I 100 25 (nn (mP I c 0 i)) = 0) => bad (fun q => f (q.2.2 i hi).2.1) _ _) (fun (f : I 100 25 (nn (mP I c 0 i)) = 0) => And.intro ⟨by decide, by decide⟩ (d_mover hN (fun o ho hz _ => And.intro (fun _ => bad (fun q => (q.2.2 i hi).2.2 o ho hz) _ _) (fun hd => absurd ((nt_le (i := 0) (by omega) (by omega)).mpr (by omega)) hd)) (fun hz => And.intro (fun hd => absurd hd (by decide)) (fun _ => fgt (ih fun j hji => ?_) (by repeat (first | exact True.intro | refine And.intro rfl ?_)))))))))
      by_cases e' : j = i
      · rw [e']; exact ⟨e, f, hz⟩
      · exact hj j (by omega)
  refine rf_goW rf_mo_84 rf_T_84 30 [25] (And.intro ⟨by decide, by decide⟩ (d_isActive hc (fun ha => br_ne1 (bad (fun q => q.1 ha) _ _)) (fun ha => br_ne0 (And.intro i8 ?_))))
  rw [nt_cl (by omega)]
  exact And.intro (fun e => bad (fun q => q.2.1 e) _ _) (fun e => key ha e 0 (by omega) (fun _ h => absurd h (by omega)))
end MO
