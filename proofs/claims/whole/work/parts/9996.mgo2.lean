/-! the model: mayGo -/
section MN
variable {l : Launch} {Q : rf_O → rf_S → Prop} {L : Nat} {I : Nat → Nat → Nat → Int32} {J : Nat → Nat → Nat → Int64} {σ : rf_S}
theorem ixo {c : Nat} {x : Int32} (hc : c < 8) (hx : ok x 4) : 0 ≤ 4 * Int32.ofNat c + x ∧ (4 * Int32.ofNat c + x).toNatClampNeg < 32 := by
  have := ix32 hc (show nn x < 4 from hx.2)
  rw [nn_of hx.1] at this
  exact this
theorem nno {c : Nat} {x : Int32} (hc : c < 8) (hx : ok x 4) : (4 * Int32.ofNat c + x).toNatClampNeg = 4 * c + nn x := by
  have := nn4 hc (show nn x < 4 from hx.2)
  rw [nn_of hx.1] at this
  exact this
/-- where the model's moves began -/
def mB (I : Nat → Nat → Nat → Int32) (c : Nat) : Nat → Int32 := fun m => I 100 35 (4 * c + m)
theorem d_mayGo {c m : Nat} (hc : c < 8) (hm : m < 4) (ha : mP I c 3 m = -1 ∨ (ok (mP I c 3 m) 4 ∧ ok (mP I c 0 (nn (mP I c 3 m))) 6)) (h1 : mayG (mP I c) (mB I c) (I 100 38) m → Q (.inl (some (.inl 1))) (sS L I J)) (h0 : ¬ mayG (mP I c) (mB I c) (I 100 38) m → Q (.inl (some (.inl 0))) (sS L I J)) : rf_C l 87 [.inr (.inr (some (8, 0))), .inl (Int32.ofNat c), .inl (Int32.ofNat m)] (sS L I J) Q := by
  apply rf_C.ofW
  refine rf_goW rf_mo_87 rf_T_87 60 [17] (And.intro (ix32 hc hm) ?_)
  rw [nn4 hc hm]
  refine And.intro (fun (e : 0 ≤ mP I c 3 m) => ?_) (fun (e : ¬ 0 ≤ mP I c 3 m) => ?_)
  · have a3 : ¬ mP I c 3 m = -1 := fun q => by rw [q] at e; exact absurd e (by decide)
    obtain ⟨o1, o2⟩ := ha.elim (fun q => absurd q a3) id
    have g : rf_W l 87 17 [some (.inr (.inr (some (8, 0)))), some (.inl (Int32.ofNat c)), some (.inl (Int32.ofNat m)), some (.inl (mP I c 3 m)), none] [] (sS L I J) 0 0 Q := by
      refine rf_goW rf_mo_87 rf_T_87 60 [] (And.intro (ixo hc o1) (And.intro (ixo hc o1) ?_))
      rw [nno hc o1]
      refine And.intro o2 (And.intro (ix32 hc hm) ?_)
      rw [nn4 hc hm]
      have hk : ∀ x, x = Int32.ofNat (nn (mP I c 3 m)) → ∀ Q' : rf_O → rf_S → Prop, (rchd (mP I c 1 (nn (mP I c 3 m))) (mB I c (nn (mP I c 3 m))) (I 100 38 (nn (mP I c 0 (nn (mP I c 3 m))))) (mP I c 4 m) → Q' (.inl (some (.inl 1))) (sS L I J)) → (¬ rchd (mP I c 1 (nn (mP I c 3 m))) (mB I c (nn (mP I c 3 m))) (I 100 38 (nn (mP I c 0 (nn (mP I c 3 m))))) (mP I c 4 m) → Q' (.inl (some (.inl 0))) (sS L I J)) → rf_C l 86 [.inr (.inr (some (8, 0))), .inl (Int32.ofNat c), .inl x, .inl (mB I c (nn (mP I c 3 m))), .inl (I 100 38 (nn (mP I c 0 (nn (mP I c 3 m))))), .inl (mP I c 4 m)] (sS L I J) Q' := by
        rintro _ rfl Q' q1 q2
        exact d_hasReached hc o1.2 q1 q2
      exact And.intro ⟨by decide, by decide⟩ (hk _ (nn_of o1.1).symm _ (fun r => And.intro (Or.inr rfl) (h1 (Or.inr r))) (fun r => And.intro (Or.inl rfl) (h0 fun q => q.elim a3 r)))
    exact g
  · have a3 : mP I c 3 m = -1 := ha.elim id fun q => absurd q.1.1 e
    exact And.intro (Or.inr rfl) (h1 (Or.inl a3))
end MN
