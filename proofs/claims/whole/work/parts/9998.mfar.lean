/-! the model: far -/
section MQ
variable {l : Launch} {Q : rf_O → rf_S → Prop} {L : Nat} {I : Nat → Nat → Nat → Int32} {J : Nat → Nat → Nat → Int64} {σ : rf_S}
def farB (I : Nat → Nat → Nat → Int32) (p a : Int32) (c : Nat) : Prop := mHas I c p ∧ (Int32.ofNat c = a ∨ bsy (I 100 27 c))
theorem d_far {p a : Int32} (hp : ok p 6) (hN : ∀ c, c < 8 → ok (I 100 29 c) 5) (h1 : ∀ c m, c < 8 → m < mN I c → mP I c 0 m = p → (∀ j, j < m → ¬ mP I c 0 j = p) → farB I p a c → (∀ j, j < c → ¬ farB I p a j) → Q (.inl (some (.inl (mP I c 1 m)))) (sS L I J)) (h0 : (∀ c, c < 8 → ¬ farB I p a c) → Q (.inl (some (.inl (I 100 23 (nn p))))) (sS L I J)) : rf_C l 85 [.inr (.inr (some (8, 0))), .inl p, .inl a] (sS L I J) Q := by
  apply rf_C.ofW
  refine rf_goW rf_mo_85 rf_T_85 3 [2] ?_
  have key : ∀ i, i ≤ 8 → (∀ j, j < i → ¬ farB I p a j) → rf_W l 85 2 [some (.inr (.inr (some (8, 0)))), some (.inl p), some (.inl a), some (.inl (Int32.ofNat i)), none] [] (sS L I J) 0 0 Q := by
    refine lp_dn ?_ ?_
    · intro hj
      exact rf_goW rf_mo_85 rf_T_85 60 [2] (And.intro (fun _ => And.intro hp (h0 hj)) (fun hd => absurd (Int32.le_refl _) hd))
    · intro i hi ih hj
      rw [← nt_succ i] at ih
      have h5 : nn (I 100 29 i) < 5 := (hN i hi).2
      have nx : ¬ farB I p a i → ∀ v, rf_W l 85 46 [some (.inr (.inr (some (8, 0)))), some (.inl p), some (.inl a), some (.inl (Int32.ofNat i)), some (.inl v)] [] (sS L I J) 0 0 Q := fun hz v => rf_goW rf_mo_85 rf_T_85 20 [2] (fgt (ih fun j hji => by
        by_cases e' : j = i
        · rw [e']; exact hz
        · exact hj j (by omega)) (by repeat (first | exact True.intro | refine And.intro rfl ?_)))
      refine rf_goW rf_mo_85 rf_T_85 60 [2, 34, 46] (And.intro (fun hd => absurd ((nt_le (i := 8) (by omega) (by omega)).mp hd) (by omega)) (fun _ => And.intro ⟨by decide, by decide⟩ (d_moveFor hi (hN i hi) (fun m hm e1 e2 => ?_) (fun hz => And.intro (fun _ => nx (fun q => q.1.elim fun m r => hz m r.1 r.2) _) (fun hd => absurd (by decide) hd)))))
      have hm4 : m < 4 := by have : m < nn (I 100 29 i) := hm
                             omega
      have yes : (Int32.ofNat i = a ∨ bsy (I 100 27 i)) → rf_W l 85 34 [some (.inr (.inr (some (8, 0)))), some (.inl p), some (.inl a), some (.inl (Int32.ofNat i)), some (.inl (Int32.ofNat m))] [] (sS L I J) 0 0 Q := by
        intro q
        refine rf_goW rf_mo_85 rf_T_85 60 [] (And.intro (ix32 hi hm4) ?_)
        rw [nn4 hi hm4]
        exact h1 i m hi hm e1 e2 ⟨⟨m, hm, e1⟩, q⟩ hj
      exact And.intro (fun hd => absurd hd (i_nlt.mpr ((nt_le (i := 0) (by omega) (by omega)).mpr (by omega)))) (fun _ => And.intro (fun e => yes (Or.inl e)) (fun e => And.intro ⟨by decide, by decide⟩ (d_isActive hi (fun f => br_eq1 (yes (Or.inr f))) (fun f => br_eq0 (nx (fun q => q.2.elim e f) _)))))
  exact key 0 (by omega) (fun _ h => absurd h (by omega))
end MQ
