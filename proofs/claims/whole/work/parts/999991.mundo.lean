/-! the model: after, undo -/
section NA
variable {l : Launch} {Q : rf_O → rf_S → Prop} {L : Nat} {I : Nat → Nat → Nat → Int32} {J : Nat → Nat → Nat → Int64} {σ : rf_S}
def afM (m o a : Int32) : Prop := o = -1 ∨ ((0 ≤ o ∧ o < m) ∧ (0 ≤ a ∧ a ≤ 400))
def afW (o a : Int32) : Int32 := if 0 ≤ o then a else 0
theorem d_after {c m o a : Int32} (he : ok (I 8 0 31) 41) (hn : ∀ c, c < 8 → ok (I 100 29 c) 5) (h0 : ¬ (ok c 8 ∧ ok m (nn (I 100 29 (nn c)))) → Q (.inl none) (sS L (thI I 1) J)) (h1 : ok c 8 → ok m (nn (I 100 29 (nn c))) → ¬ afM m o a → Q (.inl none) (sS L (thI I 2) J))
    (h2 : ok c 8 → ok m (nn (I 100 29 (nn c))) → afM m o a → bsy (I 100 27 (nn c)) → Q (.inl none) (sS L (thI I 3) J))
    (hq : ok c 8 → ok m (nn (I 100 29 (nn c))) → afM m o a → ¬ bsy (I 100 27 (nn c)) → Q (.inl none) (sS L (rf_u3 (rf_u3 (kpI (thI I 0) (nn c)) 100 33 (4 * nn c + nn m) o) 100 34 (4 * nn c + nn m) (afW o a)) J)) : rf_C l 63 [.inr (.inr (some (8, 0))), .inl c, .inl m, .inl o, .inl a] (sS L I J) Q := by
  apply rf_C.ofW
  have out : ∀ x, ¬ x ≤ 0 → Q (.inl none) (sS L (thI I x) J) → rf_W l 63 111 [some (.inr (.inr (some (8, 0)))), some (.inl c), some (.inl m), some (.inl o), some (.inl a), none] [] (sS L (thI I x) J) 0 0 Q := fun x hx q => rf_goW rf_mo_63 rf_T_63 30 [] (And.intro (fun (e : thI I x 8 0 0 ≤ 0) => absurd (thI_0 (I := I) (x := x) ▸ e) hx) (fun _ => q))
  have good : ok c 8 → ok m (nn (I 100 29 (nn c))) → afM m o a → ¬ bsy (I 100 27 (nn c)) → rf_W l 63 111 [some (.inr (.inr (some (8, 0)))), some (.inl c), some (.inl m), some (.inl o), some (.inl a), none] [] (sS L (thI I 0) J) 0 0 Q := by
    intro a1 a2 a3 a4
    have hq' := hq a1 a2 a3 a4
    have h5 : nn (I 100 29 (nn c)) < 5 := (hn (nn c) a1.2).2
    have m4 : ok m 4 := ⟨a2.1, by have : nn m < nn (I 100 29 (nn c)) := a2.2
                                  show nn m < 4
                                  omega⟩
    have i32 : 0 ≤ 4 * c + m ∧ (4 * c + m).toNatClampNeg < 32 := by
      have := ixo (c := nn c) a1.2 m4
      rw [nn_of a1.1] at this
      exact this
    have n32 : (4 * c + m).toNatClampNeg = 4 * nn c + nn m := by
      have := nno (c := nn c) a1.2 m4
      rw [nn_of a1.1] at this
      exact this
    refine rf_goW rf_mo_63 rf_T_63 60 [] (And.intro (fun _ => And.intro ⟨by decide, by decide⟩ (d_keep' a1 (by rw [thI_8 (by decide)]; exact he) (And.intro i32 ?_))) (fun (e : ¬ thI I 0 8 0 0 ≤ 0) => absurd (show thI I 0 8 0 0 ≤ 0 by rw [thI_0]; decide) e))
    rw [n32]
    rw [afW] at hq'
    refine And.intro (fun e => And.intro i32 ?_) (fun e => And.intro i32 ?_)
    · rw [if_pos e] at hq'
      rw [n32]
      exact hq'
    · rw [if_neg e] at hq'
      rw [n32]
      exact hq'
  have w44 : ∀ x, x = 0 ∨ x = 1 → (∀ y, y = 0 ∨ y = 1 → (¬ y = 0 ↔ afM m o a) → rf_W l 63 78 [some (.inr (.inr (some (8, 0)))), some (.inl c), some (.inl m), some (.inl o), some (.inl a), some (.inl y)] [] (sS L (thI I x) J) 0 0 Q) → rf_W l 63 44 [some (.inr (.inr (some (8, 0)))), some (.inl c), some (.inl m), some (.inl o), some (.inl a), none] [] (sS L (thI I x) J) 0 0 Q := by
    intro x _ k
    have y1 : afM m o a → rf_W l 63 78 [some (.inr (.inr (some (8, 0)))), some (.inl c), some (.inl m), some (.inl o), some (.inl a), some (.inl 1)] [] (sS L (thI I x) J) 0 0 Q := fun q => k 1 (Or.inr rfl) ⟨fun _ => q, fun _ => by decide⟩
    have y0 : ¬ afM m o a → rf_W l 63 78 [some (.inr (.inr (some (8, 0)))), some (.inl c), some (.inl m), some (.inl o), some (.inl a), some (.inl 0)] [] (sS L (thI I x) J) 0 0 Q := fun q => k 0 (Or.inl rfl) ⟨fun w => absurd rfl w, fun w => absurd w q⟩
    refine rf_goW rf_mo_63 rf_T_63 30 [78] (And.intro (fun e => y1 (Or.inl e)) (fun e => And.intro (fun f => y0 fun q => q.elim e fun r => i_nlt.mpr r.1.1 f) (fun f => And.intro (fun g => y0 fun q => q.elim e fun r => i_nlt.mpr g r.1.2) (fun g => And.intro (fun h => y0 fun q => q.elim e fun r => i_nlt.mpr r.2.1 h) (fun h => And.intro (fun k => y0 fun q => q.elim e fun r => i_nlt.mpr r.2.2 k) (fun k => y1 (Or.inr ⟨⟨i_nlt.mp f, i_nle.mp g⟩, i_nlt.mp h, i_nlt.mp k⟩)))))))
  have w1 : ¬ (ok c 8 ∧ ok m (nn (I 100 29 (nn c)))) → rf_W l 63 44 [some (.inr (.inr (some (8, 0)))), some (.inl c), some (.inl m), some (.inl o), some (.inl a), none] [] (sS L (thI I 1) J) 0 0 Q := by
    intro q
    refine w44 1 (Or.inr rfl) (fun y _ _ => ?_)
    refine rf_goW rf_mo_63 rf_T_63 30 [111] (And.intro (fun _ => fgt (out 1 (by decide) (h0 q)) (by repeat (first | exact True.intro | refine And.intro rfl ?_))) (fun (e : thI I 1 8 0 0 = 0) => absurd (thI_0.symm.trans e) (by decide)))
  have w0 : ok c 8 → ok m (nn (I 100 29 (nn c))) → rf_W l 63 44 [some (.inr (.inr (some (8, 0)))), some (.inl c), some (.inl m), some (.inl o), some (.inl a), none] [] (sS L (thI I 0) J) 0 0 Q := by
    intro a1 a2
    refine w44 0 (Or.inl rfl) (fun y _ hy => ?_)
    refine rf_goW rf_mo_63 rf_T_63 30 [111] (And.intro (fun e => absurd (thI_0 (I := I) (x := 0)) e) (fun _ => And.intro (fun e => ?_) (fun e => ?_)))
    · refine And.intro ⟨by decide, by decide⟩ (d_isActive' (I := thI I 0) a1 (fun b => br_eq1 ?_) (fun b => br_eq0 ?_))
      · have o3 := out 3 (by decide) (h2 a1 a2 (hy.mp e) b)
        rw [← th_th (x := 0)] at o3
        exact fgt o3 (by repeat (first | exact True.intro | refine And.intro rfl ?_))
      · have g := good a1 a2 (hy.mp e) b
        rw [← th_th (x := 0)] at g
        exact fgt g (by repeat (first | exact True.intro | refine And.intro rfl ?_))
    · have e' : y = 0 := e
      have o2 := out 2 (by decide) (h1 a1 a2 (fun q => hy.mpr q e'))
      rw [← th_th (x := 0)] at o2
      exact fgt o2 (by repeat (first | exact True.intro | refine And.intro rfl ?_))
  refine rf_goW rf_mo_63 rf_T_63 60 [44] (And.intro ⟨by decide, by decide⟩ (d_isNumber (n := 8) (by decide) (fun a1 => br_eq1 (And.intro ⟨by decide, by decide⟩ (d_isNumber (n := 8) (by decide) (fun _ => br_eq1 (And.intro a1 ?_)) (fun q => absurd a1 q)))) (fun a1 => br_eq0 (w1 fun q => a1 q.1))))
  have hcn : ok (I 100 29 (nn c)) 5 := hn _ a1.2
  have h5 : nn (I 100 29 (nn c)) < 5 := hcn.2
  have hk : ∀ x, x = Int32.ofNat (nn (I 100 29 (nn c))) → ∀ Q' : rf_O → rf_S → Prop, (ok m (nn (I 100 29 (nn c))) → Q' (.inl (some (.inl 1))) (sS L I J)) → (¬ ok m (nn (I 100 29 (nn c))) → Q' (.inl (some (.inl 0))) (sS L I J)) → rf_C l 27 [.inl m, .inl x] (sS L I J) Q' := by
    rintro _ rfl Q' q1 q2
    exact d_isNumber (by omega) q1 q2
  exact And.intro ⟨by decide, by decide⟩ (hk _ (nn_of hcn.1).symm _ (fun a2 => br_ne1 (w0 a1 a2)) (fun a2 => br_ne0 (w1 fun q => a2 q.2)))
theorem nt_pred (i : Nat) : Int32.ofNat (i + 1) - 1 = Int32.ofNat i := by rw [← nt_succ, Int32.add_sub_cancel]
/-- of the kept plan E, the first k moves are the cue's again -/
def muI (K : Nat → Nat → Nat → Int32) (E c k : Nat) : Nat → Nat → Nat → Int32 := fun b i f => if b = 100 ∧ (30 ≤ i ∧ i < 35) ∧ 4 * c ≤ f ∧ f < 4 * c + k then K 100 36 (23 * E + 3 + (i - 30) + 5 * (f - 4 * c)) else K b i f
theorem muI_0 {E c : Nat} : muI I E c 0 = I := by
  funext b i f
  rw [muI, if_neg (by omega)]
theorem muI_k {E c k i : Nat} (h : 35 ≤ i) : muI I E c k 100 i = I 100 i := by
  funext f
  rw [muI, if_neg (by omega)]
theorem muI_s {E c k : Nat} : rf_u3 (rf_u3 (rf_u3 (rf_u3 (rf_u3 (muI I E c k) 100 30 (4 * c + k) (I 100 36 (23 * E + 3 + 5 * k))) 100 31 (4 * c + k) (I 100 36 (23 * E + 4 + 5 * k))) 100 32 (4 * c + k) (I 100 36 (23 * E + 5 + 5 * k))) 100 33 (4 * c + k) (I 100 36 (23 * E + 6 + 5 * k))) 100 34 (4 * c + k) (I 100 36 (23 * E + 7 + 5 * k)) = muI I E c (k + 1) := by
  funext b i f
  have hit : ∀ j, j < 5 → i = 30 + j → b = 100 → f = 4 * c + k → muI I E c (k + 1) b i f = I 100 36 (23 * E + 3 + j + 5 * k) := by
    intro j hj e1 e2 e3
    have e4 : i - 30 = j := by omega
    have e5 : f - 4 * c = k := by omega
    rw [muI, if_pos (by omega), e4, e5]
  by_cases hf : b = 100 ∧ f = 4 * c + k
  · obtain ⟨rfl, rfl⟩ := hf
    by_cases h4 : i = 34
    · rw [hit 4 (by omega) (by omega) rfl rfl, rf_u3, if_pos ⟨rfl, h4, rfl⟩]
    · rw [rf_u3, if_neg (by omega)]
      by_cases h3 : i = 33
      · rw [hit 3 (by omega) (by omega) rfl rfl, rf_u3, if_pos ⟨rfl, h3, rfl⟩]
      · rw [rf_u3, if_neg (by omega)]
        by_cases h2 : i = 32
        · rw [hit 2 (by omega) (by omega) rfl rfl, rf_u3, if_pos ⟨rfl, h2, rfl⟩]
        · rw [rf_u3, if_neg (by omega)]
          by_cases h1 : i = 31
          · rw [hit 1 (by omega) (by omega) rfl rfl, rf_u3, if_pos ⟨rfl, h1, rfl⟩]
          · rw [rf_u3, if_neg (by omega)]
            by_cases h0 : i = 30
            · rw [hit 0 (by omega) (by omega) rfl rfl, rf_u3, if_pos ⟨rfl, h0, rfl⟩]
            · rw [rf_u3, if_neg (by omega), muI, if_neg (by omega), muI, if_neg (by omega)]
  · rw [rf_u3, if_neg (by omega), rf_u3, if_neg (by omega), rf_u3, if_neg (by omega), rf_u3, if_neg (by omega), rf_u3, if_neg (by omega)]
    unfold muI
    by_cases q : b = 100 ∧ (30 ≤ i ∧ i < 35) ∧ 4 * c ≤ f ∧ f < 4 * c + k
    · rw [if_pos q, if_pos (by omega)]
    · rw [if_neg q, if_neg (by omega)]
/-- the number of the latest kept plan, its cue -/
def luE (I : Nat → Nat → Nat → Int32) : Nat := nn (I 8 0 31) - 1
def luC (I : Nat → Nat → Nat → Int32) : Nat := nn (I 100 37 (luE I))
def unK (I : Nat → Nat → Nat → Int32) : Nat → Nat → Nat → Int32 := rf_u3 (rf_u3 (rf_u3 (rf_u3 (thI I 0) 8 0 31 (Int32.ofNat (luE I))) 8 0 32 (I 8 0 32 - 1)) 100 28 (luC I) (I 100 36 (23 * luE I))) 100 29 (luC I) (I 100 36 (23 * luE I + 1))
def muC (I : Nat → Nat → Nat → Int32) : Prop := ¬ I 8 0 31 = 0 ∧ ¬ bsy (I 100 27 (luC I))
theorem d_undo (he : ok (I 8 0 31) 41) (hk : ∀ i, i < nn (I 8 0 31) → ok (I 100 37 i) 8) (h0 : ¬ muC I → Q (.inl (some (.inl 0))) (sS L (thI I 0) J)) (hq : muC I → Q (.inl (some (.inl 1))) (sS L (muI (unK I) (luE I) (luC I) 4) J)) : rf_C l 71 [.inr (.inr (some (8, 0)))] (sS L I J) Q := by
  apply rf_C.ofW
  have he2 : nn (I 8 0 31) < 41 := he.2
  have g5 : rf_W l 71 5 [some (.inr (.inr (some (8, 0)))), none, none, none] [] (sS L (thI I 0) J) 0 0 Q := by
    have e31 : thI I 0 8 0 31 = I 8 0 31 := thI_8 (by decide)
    refine rf_goW rf_mo_71 rf_T_71 30 [12] (And.intro (fun (e : thI I 0 8 0 31 = 0) => And.intro (Or.inl rfl) (h0 fun q => q.1 (by rw [e31] at e; exact e))) (fun (e : ¬ thI I 0 8 0 31 = 0) => ?_))
    rw [e31] at e
    have n0 : ¬ nn (I 8 0 31) = 0 := fun q => e (by rw [← nn_of he.1, q]; rfl)
    obtain ⟨E, hE⟩ : ∃ E, E = luE I := ⟨_, rfl⟩
    have hE1 : nn (I 8 0 31) = E + 1 := by rw [hE, luE]; omega
    have ee : I 8 0 31 = Int32.ofNat (E + 1) := by rw [← hE1]; exact (nn_of he.1).symm
    obtain ⟨c, hc⟩ : ∃ c, c = luC I := ⟨_, rfl⟩
    have c8 : ok (I 100 37 E) 8 := hk E (by omega)
    have cc : I 100 37 E = Int32.ofNat c := by rw [hc, luC, ← hE]; exact (nn_of c8.1).symm
    have c8' : c < 8 := by rw [hc, luC, ← hE]; exact c8.2
    have g12 : rf_W l 71 12 [some (.inr (.inr (some (8, 0)))), none, none, none] [] (sS L (thI I 0) J) 0 0 Q := by
      have x1 : thI I 0 8 0 31 - 1 = Int32.ofNat E := by rw [e31, ee, nt_pred]
      have hh : ∀ x, x = Int32.ofNat c → ∀ Q' : rf_O → rf_S → Prop, (bsy (I 100 27 c) → Q' (.inl (some (.inl 1))) (sS L (thI I 0) J)) → (¬ bsy (I 100 27 c) → Q' (.inl (some (.inl 0))) (sS L (thI I 0) J)) → rf_C l 40 [.inr (.inr (some (8, 0))), .inl x] (sS L (thI I 0) J) Q' := by
        rintro _ rfl Q' q1 q2
        exact d_isActive (I := thI I 0) c8' q1 q2
      have E40 : E < 40 := by omega
      have e36 : unK I 100 36 = I 100 36 := by
        funext f
        simp [unK, thI, rf_u3]
      have key : muC I → ∀ k, k ≤ 4 → rf_W l 71 98 [some (.inr (.inr (some (8, 0)))), some (.inl (Int32.ofNat c)), some (.inl (Int32.ofNat (23 * E))), some (.inl (Int32.ofNat k))] [] (sS L (muI (unK I) E c k) J) 0 0 Q := by
        intro hm
        have hq' := hq hm
        rw [← hE, ← hc] at hq'
        refine lp_dn ?_ ?_
        · exact rf_goW rf_mo_71 rf_T_71 30 [98] (And.intro (fun _ => And.intro (Or.inr rfl) hq') (fun hd => absurd (Int32.le_refl _) hd))
        · intro k hk4 ih
          rw [← nt_succ k, ← muI_s] at ih
          have r36 : ∀ (M : Nat → Nat → Nat → Int32) i v, i < 35 → M 100 36 = unK I 100 36 → rf_u3 M 100 i (4 * c + k) v 100 36 = unK I 100 36 := fun M i v hi hM => by
            rw [← hM]
            funext f
            have : ¬ 36 = i := by omega
            simp [rf_u3, this]
          have m0 : muI (unK I) E c k 100 36 = unK I 100 36 := muI_k (by decide)
          have s98 : ∀ M : Nat → Nat → Nat → Int32, M 100 36 = unK I 100 36 → rf_W l 71 125 [some (.inr (.inr (some (8, 0)))), some (.inl (Int32.ofNat c)), some (.inl (Int32.ofNat (23 * E))), some (.inl (Int32.ofNat k))] [] (sS L (rf_u3 M 100 30 (4 * c + k) (unK I 100 36 (23 * E + 3 + 5 * k))) J) 0 0 Q → rf_W l 71 98 [some (.inr (.inr (some (8, 0)))), some (.inl (Int32.ofNat c)), some (.inl (Int32.ofNat (23 * E))), some (.inl (Int32.ofNat k))] [] (sS L M J) 0 0 Q := by
            intro M hM q
            refine rf_goW rf_mo_71 rf_T_71 30 [125] (And.intro (fun hd => absurd ((nt_le (i := 4) (by omega) (by omega)).mp hd) (by omega)) (fun _ => And.intro (kxi (k := 3) E40 (by decide) hk4) (And.intro (ix32 c8' hk4) ?_)))
            rw [show (Int32.ofNat (23 * E) + 3 + 5 * Int32.ofNat k).toNatClampNeg = 23 * E + 3 + 5 * k from kxn (k := 3) E40 (by decide) hk4, nn4 c8' hk4]
            rw [← hM] at q
            exact q
          have s125 : ∀ M : Nat → Nat → Nat → Int32, M 100 36 = unK I 100 36 → rf_W l 71 147 [some (.inr (.inr (some (8, 0)))), some (.inl (Int32.ofNat c)), some (.inl (Int32.ofNat (23 * E))), some (.inl (Int32.ofNat k))] [] (sS L (rf_u3 M 100 31 (4 * c + k) (unK I 100 36 (23 * E + 4 + 5 * k))) J) 0 0 Q → rf_W l 71 125 [some (.inr (.inr (some (8, 0)))), some (.inl (Int32.ofNat c)), some (.inl (Int32.ofNat (23 * E))), some (.inl (Int32.ofNat k))] [] (sS L M J) 0 0 Q := by
            intro M hM q
            refine rf_goW rf_mo_71 rf_T_71 30 [147] (And.intro (kxi (k := 4) E40 (by decide) hk4) (And.intro (ix32 c8' hk4) ?_))
            rw [show (Int32.ofNat (23 * E) + 4 + 5 * Int32.ofNat k).toNatClampNeg = 23 * E + 4 + 5 * k from kxn (k := 4) E40 (by decide) hk4, nn4 c8' hk4]
            rw [← hM] at q
            exact q
          have s147 : ∀ M : Nat → Nat → Nat → Int32, M 100 36 = unK I 100 36 → rf_W l 71 169 [some (.inr (.inr (some (8, 0)))), some (.inl (Int32.ofNat c)), some (.inl (Int32.ofNat (23 * E))), some (.inl (Int32.ofNat k))] [] (sS L (rf_u3 M 100 32 (4 * c + k) (unK I 100 36 (23 * E + 5 + 5 * k))) J) 0 0 Q → rf_W l 71 147 [some (.inr (.inr (some (8, 0)))), some (.inl (Int32.ofNat c)), some (.inl (Int32.ofNat (23 * E))), some (.inl (Int32.ofNat k))] [] (sS L M J) 0 0 Q := by
            intro M hM q
            refine rf_goW rf_mo_71 rf_T_71 30 [169] (And.intro (kxi (k := 5) E40 (by decide) hk4) (And.intro (ix32 c8' hk4) ?_))
            rw [show (Int32.ofNat (23 * E) + 5 + 5 * Int32.ofNat k).toNatClampNeg = 23 * E + 5 + 5 * k from kxn (k := 5) E40 (by decide) hk4, nn4 c8' hk4]
            rw [← hM] at q
            exact q
          have s169 : ∀ M : Nat → Nat → Nat → Int32, M 100 36 = unK I 100 36 → rf_W l 71 192 [some (.inr (.inr (some (8, 0)))), some (.inl (Int32.ofNat c)), some (.inl (Int32.ofNat (23 * E))), some (.inl (Int32.ofNat k))] [] (sS L (rf_u3 M 100 33 (4 * c + k) (unK I 100 36 (23 * E + 6 + 5 * k))) J) 0 0 Q → rf_W l 71 169 [some (.inr (.inr (some (8, 0)))), some (.inl (Int32.ofNat c)), some (.inl (Int32.ofNat (23 * E))), some (.inl (Int32.ofNat k))] [] (sS L M J) 0 0 Q := by
            intro M hM q
            refine rf_goW rf_mo_71 rf_T_71 30 [192] (And.intro (kxi (k := 6) E40 (by decide) hk4) (And.intro (ix32 c8' hk4) ?_))
            rw [show (Int32.ofNat (23 * E) + 6 + 5 * Int32.ofNat k).toNatClampNeg = 23 * E + 6 + 5 * k from kxn (k := 6) E40 (by decide) hk4, nn4 c8' hk4]
            rw [← hM] at q
            exact q
          have s192 : ∀ M : Nat → Nat → Nat → Int32, M 100 36 = unK I 100 36 → rf_W l 71 98 [some (.inr (.inr (some (8, 0)))), some (.inl (Int32.ofNat c)), some (.inl (Int32.ofNat (23 * E))), some (.inl (Int32.ofNat k + 1))] [] (sS L (rf_u3 M 100 34 (4 * c + k) (unK I 100 36 (23 * E + 7 + 5 * k))) J) 0 0 Q → rf_W l 71 192 [some (.inr (.inr (some (8, 0)))), some (.inl (Int32.ofNat c)), some (.inl (Int32.ofNat (23 * E))), some (.inl (Int32.ofNat k))] [] (sS L M J) 0 0 Q := by
            intro M hM q
            refine rf_goW rf_mo_71 rf_T_71 30 [98] (And.intro (kxi (k := 7) E40 (by decide) hk4) (And.intro (ix32 c8' hk4) ?_))
            rw [show (Int32.ofNat (23 * E) + 7 + 5 * Int32.ofNat k).toNatClampNeg = 23 * E + 7 + 5 * k from kxn (k := 7) E40 (by decide) hk4, nn4 c8' hk4]
            rw [← hM] at q
            exact q
          exact s98 _ m0 (s125 _ (r36 _ _ _ (by decide) m0) (s147 _ (r36 _ _ _ (by decide) (r36 _ _ _ (by decide) m0)) (s169 _ (r36 _ _ _ (by decide) (r36 _ _ _ (by decide) (r36 _ _ _ (by decide) m0))) (s192 _ (r36 _ _ _ (by decide) (r36 _ _ _ (by decide) (r36 _ _ _ (by decide) (r36 _ _ _ (by decide) m0)))) ih))))
      have g32 : muC I → rf_W l 71 32 [some (.inr (.inr (some (8, 0)))), none, none, none] [] (sS L (thI I 0) J) 0 0 Q := by
        intro hm
        have k0 := key hm 0 (by omega)
        rw [muI_0] at k0
        obtain ⟨K1, hK1⟩ : ∃ K1, K1 = rf_u3 (rf_u3 (thI I 0) 8 0 31 (Int32.ofNat E)) 8 0 32 (I 8 0 32 - 1) := ⟨_, rfl⟩
        have ku : unK I = rf_u3 (rf_u3 K1 100 28 c (I 100 36 (23 * E))) 100 29 c (I 100 36 (23 * E + 1)) := by rw [unK, ← hE, ← hc, hK1]
        have f36 : K1 100 36 = I 100 36 := by rw [hK1]; funext f; simp [thI, rf_u3]
        have f37 : K1 100 37 = I 100 37 := by rw [hK1]; funext f; simp [thI, rf_u3]
        have f31 : K1 8 0 31 = Int32.ofNat E := by rw [hK1]; simp [rf_u3]
        have i0 : 0 ≤ Int32.ofNat (23 * E) ∧ (Int32.ofNat (23 * E)).toNatClampNeg < 920 := nt_ix (n := 920) (by omega) (by decide)
        have i1 : 0 ≤ Int32.ofNat (23 * E) + 1 ∧ (Int32.ofNat (23 * E) + 1).toNatClampNeg < 920 := by
          rw [nt_succ]
          exact nt_ix (n := 920) (by omega) (by decide)
        have i8 := nt_ix (n := 8) c8' (by decide)
        have g82 : rf_W l 71 82 [some (.inr (.inr (some (8, 0)))), some (.inl (Int32.ofNat c)), some (.inl (Int32.ofNat (23 * E))), none] [] (sS L (rf_u3 K1 100 28 c (I 100 36 (23 * E))) J) 0 0 Q := by
          refine rf_goW rf_mo_71 rf_T_71 30 [98] (And.intro i1 (And.intro i8 ?_))
          rw [show (Int32.ofNat (23 * E) + 1).toNatClampNeg = 23 * E + 1 by rw [nt_succ]; exact nt_cl (by omega), nt_cl (by omega)]
          have r : rf_u3 K1 100 28 c (I 100 36 (23 * E)) 100 36 (23 * E + 1) = I 100 36 (23 * E + 1) := by
            rw [← f36]
            simp [rf_u3]
          rw [ku, ← r] at k0
          exact k0
        have g70 : ∀ x, x = Int32.ofNat (23 * E) → rf_W l 71 70 [some (.inr (.inr (some (8, 0)))), some (.inl (Int32.ofNat c)), some (.inl x), none] [] (sS L K1 J) 0 0 Q := by
          rintro _ rfl
          refine rf_goW rf_mo_71 rf_T_71 30 [82] (And.intro i0 (And.intro i8 ?_))
          rw [nt_cl (by omega), nt_cl (by omega)]
          rw [← f36] at g82
          exact g82
        have g62 : ∀ x, x = Int32.ofNat c → rf_W l 71 62 [some (.inr (.inr (some (8, 0)))), some (.inl x), none, none] [] (sS L K1 J) 0 0 Q := by
          rintro _ rfl
          refine rf_goW rf_mo_71 rf_T_71 30 [70] (g70 _ ?_)
          show 23 * K1 8 0 31 = _
          rw [f31]
          exact nt_mul 23 E
        have g52 : rf_W l 71 52 [some (.inr (.inr (some (8, 0)))), none, none, none] [] (sS L K1 J) 0 0 Q := by
          refine rf_goW rf_mo_71 rf_T_71 30 [62] (And.intro ?_ (g62 _ ?_))
          · show 0 ≤ K1 8 0 31 ∧ (K1 8 0 31).toNatClampNeg < 40
            rw [f31]
            exact nt_ix (n := 40) E40 (by decide)
          · show K1 100 37 (K1 8 0 31).toNatClampNeg = _
            rw [f31, nt_cl (by omega), f37, cc]
        have es : rf_u3 (rf_u3 (thI I 0) 8 0 31 (thI I 0 8 0 31 - 1)) 8 0 32 (rf_u3 (thI I 0) 8 0 31 (thI I 0 8 0 31 - 1) 8 0 32 - 1) = K1 := by
          rw [x1, hK1, u3_f (by decide) 0, thI_8 (by decide)]
        rw [← es] at g52
        exact rf_goW rf_mo_71 rf_T_71 30 [52] g52
      refine rf_goW rf_mo_71 rf_T_71 30 [32] (And.intro ?_ (And.intro ⟨by decide, by decide⟩ (hh _ ?_ _ (fun b => br_eq1 (And.intro (Or.inl rfl) (h0 fun q => q.2 (hc ▸ b)))) (fun b => br_eq0 (g32 ⟨e, hc ▸ b⟩)))))
      · show 0 ≤ thI I 0 8 0 31 - 1 ∧ (thI I 0 8 0 31 - 1).toNatClampNeg < 40
        rw [x1]
        exact nt_ix (n := 40) E40 (by decide)
      · show thI I 0 100 37 (thI I 0 8 0 31 - 1).toNatClampNeg = _
        rw [x1, nt_cl (by omega), thI_b (by decide), cc]
    exact g12
  exact rf_goW rf_mo_71 rf_T_71 30 [5] g5
end NA
