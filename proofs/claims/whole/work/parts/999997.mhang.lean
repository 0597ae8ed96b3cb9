/-! the model: hang -/
section NF
variable {l : Launch} {Q : rf_O → rf_S → Prop} {L : Nat} {I : Nat → Nat → Nat → Int32} {J : Nat → Nat → Nat → Int64} {σ : rf_S}
def hgM (x w a b : Int32) : Prop := ((0 < x ∧ x < 4096) ∧ onF x 32 ≤ 3) ∧ (1 ≤ w ∧ w ≤ 10000) ∧ (0 ≤ a ∧ a ≤ 100) ∧ (0 ≤ b ∧ b ≤ 100)
def btM (x : Int32) (i : Nat) : Int32 := (x >>> (Int32.ofNat i &&& 31)) &&& 1
def hfM (I : Nat → Nat → Nat → Int32) (p : Nat) (x : Int32) : Prop := I 101 3 p = 0 ∧ ∀ i, i < 12 → btM x i = 0 ∨ I 100 10 i < 0
def hA (H : Prop) (A : Nat → Prop) : Nat → Prop
  | 0 => H
  | j + 1 => A j
theorem hA_iff {H : Prop} {A : Nat → Prop} {n : Nat} : (∀ j, j < n + 1 → hA H A j) ↔ H ∧ ∀ j, j < n → A j := by
  constructor
  · intro q
    exact ⟨q 0 (by omega), fun j hj => q (j + 1) (by omega)⟩
  · intro q j hj
    cases j with
    | zero => exact q.1
    | succ j => exact q.2 j (by omega)
/-- the spot tried -/
def ht1 (I : Nat → Nat → Nat → Int32) (p : Nat) (a b : Int32) : Nat → Nat → Nat → Int32 := rf_u3 (rf_u3 (rf_u3 (thI I 0) 100 21 p a) 100 22 p b) 100 23 p 0
def ht2 (I : Nat → Nat → Nat → Int32) (p : Nat) (x w a b : Int32) : Nat → Nat → Nat → Int32 := rf_u3 (rf_u3 (rf_u3 (rf_u3 (rf_u3 (ht1 I p a b) 101 3 p 1) 100 17 p w) 100 24 p 0) 100 25 p 0) 100 26 p (w / onF x 32)
def mhV (p : Int32) (b i : Nat) : Option Int32 := if b = 100 ∧ i = 10 then some p else if b = 100 ∧ 11 ≤ i ∧ i ≤ 14 then some 0 else if b = 101 ∧ i = 1 then some 0 else none
/-- the drives of the set x hang on the piece, of the first k -/
def mhA (I : Nat → Nat → Nat → Int32) (x p : Int32) (k : Nat) : Nat → Nat → Nat → Int32 := fun b i f => match (if f < k ∧ ¬ btM x f = 0 then mhV p b i else none) with
  | some v => v
  | none => I b i f
theorem mhA_0 {x p : Int32} : mhA I x p 0 = I := by
  funext b i f
  rw [mhA, if_neg (by omega)]
theorem mhA_n {x p : Int32} {k : Nat} (h : btM x k = 0) : mhA I x p (k + 1) = mhA I x p k := by
  funext b i f
  by_cases q : f < k ∧ ¬ btM x f = 0
  · rw [mhA, if_pos (by exact ⟨by omega, q.2⟩), mhA, if_pos q]
  · have q' : ¬ (f < k + 1 ∧ ¬ btM x f = 0) := by
      intro w
      by_cases e : f = k
      · exact w.2 (e ▸ h)
      · exact q ⟨by omega, w.2⟩
    rw [mhA, if_neg q', mhA, if_neg q]
theorem mhA_y {x p : Int32} {k : Nat} (h : ¬ btM x k = 0) : rf_u3 (rf_u3 (rf_u3 (rf_u3 (rf_u3 (rf_u3 (mhA I x p k) 100 10 k p) 100 11 k 0) 100 12 k 0) 100 13 k 0) 100 14 k 0) 101 1 k 0 = mhA I x p (k + 1) := by
  funext b i f
  by_cases e : f = k
  · subst e
    have r : mhA I x p f b i f = I b i f := by rw [mhA, if_neg (by omega)]
    have r' : mhA I x p (f + 1) b i f = match mhV p b i with
      | some v => v
      | none => I b i f := by rw [mhA, if_pos ⟨by omega, h⟩]
    rw [r']
    unfold mhV
    by_cases q : b = 101 ∧ i = 1
    · rw [rf_u3, if_pos ⟨q.1, q.2, rfl⟩, if_neg (by omega), if_neg (by omega), if_pos q]
    · rw [rf_u3, if_neg (by omega)]
      by_cases q4 : b = 100 ∧ i = 14
      · rw [rf_u3, if_pos ⟨q4.1, q4.2, rfl⟩, if_neg (by omega), if_pos (by omega)]
      · rw [rf_u3, if_neg (by omega)]
        by_cases q3 : b = 100 ∧ i = 13
        · rw [rf_u3, if_pos ⟨q3.1, q3.2, rfl⟩, if_neg (by omega), if_pos (by omega)]
        · rw [rf_u3, if_neg (by omega)]
          by_cases q2 : b = 100 ∧ i = 12
          · rw [rf_u3, if_pos ⟨q2.1, q2.2, rfl⟩, if_neg (by omega), if_pos (by omega)]
          · rw [rf_u3, if_neg (by omega)]
            by_cases q1 : b = 100 ∧ i = 11
            · rw [rf_u3, if_pos ⟨q1.1, q1.2, rfl⟩, if_neg (by omega), if_pos (by omega)]
            · rw [rf_u3, if_neg (by omega)]
              by_cases q0 : b = 100 ∧ i = 10
              · rw [rf_u3, if_pos ⟨q0.1, q0.2, rfl⟩, if_pos q0]
              · rw [rf_u3, if_neg (by omega), r, if_neg q0, if_neg (by omega), if_neg q]
  · rw [rf_u3, if_neg (by omega), rf_u3, if_neg (by omega), rf_u3, if_neg (by omega), rf_u3, if_neg (by omega), rf_u3, if_neg (by omega), rf_u3, if_neg (by omega)]
    by_cases q : f < k ∧ ¬ btM x f = 0
    · rw [mhA, if_pos q, mhA, if_pos ⟨by omega, q.2⟩]
    · rw [mhA, if_neg q, mhA, if_neg fun w => q ⟨by omega, w.2⟩]
theorem d_hang {p x w a b : Int32} (hx : hgM x w a b → ¬ onF x 32 = 0) (h0 : ¬ ok p 6 → Q (.inl none) (sS L (thI I 1) J)) (h1 : ok p 6 → ¬ hgM x w a b → Q (.inl none) (sS L (thI I 2) J)) (h2 : ok p 6 → hgM x w a b → ¬ hfM I (nn p) x → Q (.inl none) (sS L (thI I 3) J))
    (h3 : ok p 6 → hgM x w a b → hfM I (nn p) x → (∃ j, j < 6 ∧ mAn (ht1 I (nn p) a b) p j) → Q (.inl none) (sS L (thI (rf_u3 I 100 23 (nn p) 0) 3) J))
    (hq : ok p 6 → hgM x w a b → hfM I (nn p) x → ¬ (∃ j, j < 6 ∧ mAn (ht1 I (nn p) a b) p j) → Q (.inl none) (sS L (mhA (ht2 I (nn p) x w a b) x p 12) J)) : rf_C l 33 [.inr (.inr (some (8, 0))), .inl p, .inl x, .inl w, .inl a, .inl b] (sS L I J) Q := by
  apply rf_C.ofW
  refine rf_goW rf_mo_33 rf_T_33 30 [18] (And.intro ⟨by decide, by decide⟩ (d_isNumber (n := 6) (by decide) (fun a1 => br_eq1 ?_) (fun a1 => br_eq0 ?_)))
  · -- a piece
    have t100 : thI I 0 100 = I 100 := thI_b (by decide)
    have t101 : thI I 0 101 = I 101 := thI_b (by decide)
    obtain ⟨A, hAd⟩ : ∃ A : Nat → Prop, A = fun i => btM x i = 0 ∨ I 100 10 i < 0 := ⟨_, rfl⟩
    have g285 : hgM x w a b → hfM I (nn p) x → ¬ (∃ j, j < 6 ∧ mAn (ht1 I (nn p) a b) p j) → rf_W l 33 285 [some (.inr (.inr (some (8, 0)))), some (.inl p), some (.inl x), none, none, none, none, none, none, none, none] [] (sS L (ht2 I (nn p) x w a b) J) 0 0 Q := by
      intro c1 c2 c3
      have key : ∀ k, k ≤ 12 → rf_W l 33 288 [some (.inr (.inr (some (8, 0)))), some (.inl p), some (.inl x), none, none, none, none, none, none, none, some (.inl (Int32.ofNat k))] [] (sS L (mhA (ht2 I (nn p) x w a b) x p k) J) 0 0 Q := by
        refine lp_dn ?_ ?_
        · exact rf_goW rf_mo_33 rf_T_33 30 [288] (And.intro (fun _ => hq a1 c1 c2 c3) (fun hd => absurd (Int32.le_refl _) hd))
        · intro k hk ih
          rw [← nt_succ k] at ih
          have i12 := nt_ix (n := 12) hk (by decide)
          refine rf_goW rf_mo_33 rf_T_33 60 [288] (And.intro (fun hd => absurd ((nt_le (i := 12) (by omega) (by omega)).mp hd) (by omega)) (fun _ => And.intro (fun (e : ¬ btM x k = 0) => And.intro i12 (And.intro i12 (And.intro i12 (And.intro i12 (And.intro i12 (And.intro (Or.inl rfl) (And.intro i12 ?_))))))) (fun (e : btM x k = 0) => ?_)))
          · rw [nt_cl (by omega)]
            rw [← mhA_y e] at ih
            exact ih
          · rw [mhA_n e] at ih
            exact ih
      have k0 := key 0 (by omega)
      rw [mhA_0] at k0
      exact rf_goW rf_mo_33 rf_T_33 30 [288] k0
    have g220 : hgM x w a b → hfM I (nn p) x → rf_W l 33 215 [some (.inr (.inr (some (8, 0)))), some (.inl p), some (.inl x), some (.inl w), none, none, none, none, some (.inl (I 100 21 (nn p))), some (.inl (I 100 22 (nn p))), none] [] (sS L (ht1 I (nn p) a b) J) 0 0 Q := by
      intro c1 c2
      refine rf_goW rf_mo_33 rf_T_33 60 [285] (And.intro ⟨by decide, by decide⟩ (d_meetsAny (I := ht1 I (nn p) a b) a1 (And.intro (fun e => ?_) (fun e => And.intro a1 (And.intro a1 ?_)))))
      · have c3 : ¬ (∃ j, j < 6 ∧ mAn (ht1 I (nn p) a b) p j) := fun q => fl_iff.mpr q e
        have g := g285 c1 c2 c3
        refine And.intro (Or.inr rfl) (And.intro a1 (And.intro a1 (And.intro a1 (And.intro a1 (And.intro ⟨by decide, by decide⟩ (d_ones (And.intro (hx c1) (And.intro a1 ?_))))))))
        exact fgt g (by repeat (first | exact True.intro | refine And.intro rfl ?_))
      · have q := h3 a1 c1 c2 (fl_iff.mp e)
        refine eqS (Q := Q) ?_ q
        show sS L (rf_u3 (rf_u3 (rf_u3 (ht1 I (nn p) a b) 100 21 (nn p) (I 100 21 (nn p))) 100 22 (nn p) (I 100 22 (nn p))) 8 0 0 3) J = _
        have : rf_u3 (rf_u3 (rf_u3 (ht1 I (nn p) a b) 100 21 (nn p) (I 100 21 (nn p))) 100 22 (nn p) (I 100 22 (nn p))) 8 0 0 3 = thI (rf_u3 I 100 23 (nn p) 0) 3 := by
          funext b' i f
          unfold ht1 thI
          by_cases z8 : b' = 8 ∧ i = 0 ∧ f = 0
          · rw [rf_u3, if_pos z8, rf_u3, if_pos z8]
          · rw [rf_u3, if_neg z8, rf_u3]
            by_cases z2 : b' = 100 ∧ i = 22 ∧ f = nn p
            · obtain ⟨rfl, rfl, rfl⟩ := z2
              simp [rf_u3]
            · rw [if_neg z2, rf_u3]
              by_cases z1 : b' = 100 ∧ i = 21 ∧ f = nn p
              · obtain ⟨rfl, rfl, rfl⟩ := z1
                simp [rf_u3]
              · rw [if_neg z1, rf_u3]
                by_cases z3 : b' = 100 ∧ i = 23 ∧ f = nn p
                · obtain ⟨rfl, rfl, rfl⟩ := z3
                  simp [rf_u3]
                · rw [if_neg z3, rf_u3, if_neg z2, rf_u3, if_neg z1, rf_u3, if_neg z8, rf_u3, if_neg z8, rf_u3, if_neg z3]
        rw [this]
    have g176 : hgM x w a b → hfM I (nn p) x → rf_W l 33 176 [some (.inr (.inr (some (8, 0)))), some (.inl p), some (.inl x), some (.inl w), some (.inl a), some (.inl b), none, none, none, none, none] [] (sS L (thI I 0) J) 0 0 Q := by
      intro c1 c2
      have g := g220 c1 c2
      refine rf_goW rf_mo_33 rf_T_33 60 [215] (And.intro a1 (And.intro a1 (And.intro a1 (And.intro a1 (And.intro a1 ?_)))))
      rw [← t100] at g
      exact fgt g (by repeat (first | exact True.intro | refine And.intro rfl ?_))
    have fin : ∀ y, (y = 0 ∨ y = 1) → (¬ y = 0 ↔ hgM x w a b) → rf_W l 33 151 [some (.inr (.inr (some (8, 0)))), some (.inl p), some (.inl x), some (.inl w), some (.inl a), some (.inl b), some (.inl y), some (.inl (al (hA (I 101 3 (nn p) = 0) A) 13)), none, none, none] [] (sS L (thI I 0) J) 0 0 Q := by
      intro y _ hy
      have ha : ¬ al (hA (I 101 3 (nn p) = 0) A) 13 = 0 ↔ hfM I (nn p) x := by
        rw [al_iff, hA_iff, hAd]
        exact Iff.rfl
      have q2 : ¬ hgM x w a b → Q (.inl none) (sS L (rf_u3 (thI I 0) 8 0 0 2) J) := fun q => by rw [th_th]; exact h1 a1 q
      have q3 : hgM x w a b → ¬ hfM I (nn p) x → Q (.inl none) (sS L (rf_u3 (thI I 0) 8 0 0 3) J) := fun q q' => by rw [th_th]; exact h2 a1 q q'
      refine rf_goW rf_mo_33 rf_T_33 30 [176] (And.intro (fun e => And.intro (fun _ => q2 fun q => hy.mpr q e) (fun f => absurd e f)) (fun e => And.intro (fun f => ?_) (fun f => And.intro (fun g => absurd g e) (fun _ => q3 (hy.mp e) fun q => ha.mpr q f))))
      exact fgt (g176 (hy.mp e) (ha.mp f)) (by repeat (first | exact True.intro | refine And.intro rfl ?_))
    have loop : ∀ y, (y = 0 ∨ y = 1) → (¬ y = 0 ↔ hgM x w a b) → ∀ i, i ≤ 12 → rf_W l 33 107 [some (.inr (.inr (some (8, 0)))), some (.inl p), some (.inl x), some (.inl w), some (.inl a), some (.inl b), some (.inl y), some (.inl (al (hA (I 101 3 (nn p) = 0) A) (i + 1))), some (.inl (Int32.ofNat i)), none, none] [] (sS L (thI I 0) J) 0 0 Q := by
      intro y hy1 hy
      refine lp_dn ?_ ?_
      · exact rf_goW rf_mo_33 rf_T_33 30 [107, 151] (And.intro (fun _ => fgt (fin y hy1 hy) (by repeat (first | exact True.intro | refine And.intro rfl ?_))) (fun hd => absurd (Int32.le_refl _) hd))
      · intro i hi ih
        rw [← nt_succ i] at ih
        have i12 := nt_ix (n := 12) hi (by decide)
        have g143 : ∀ z, z = al (hA (I 101 3 (nn p) = 0) A) (i + 1 + 1) → rf_W l 33 143 [some (.inr (.inr (some (8, 0)))), some (.inl p), some (.inl x), some (.inl w), some (.inl a), some (.inl b), some (.inl y), none, some (.inl (Int32.ofNat i)), none, none] [.inl z] (sS L (thI I 0) J) 0 0 Q := by
          rintro _ rfl
          exact rf_goW rf_mo_33 rf_T_33 30 [107] ih
        refine rf_goW rf_mo_33 rf_T_33 30 [143] (And.intro (fun hd => absurd ((nt_le (i := 12) (by omega) (by omega)).mp hd) (by omega)) (fun _ => And.intro (fun f => fgt (g143 _ (al_k f).symm) (by repeat (first | exact True.intro | refine And.intro rfl ?_))) (fun f => And.intro (fun (g : btM x i = 0) => fgt (g143 _ (al_y f ?_).symm) (by repeat (first | exact True.intro | refine And.intro rfl ?_))) (fun (g : ¬ btM x i = 0) => And.intro i12 ?_))))
        · rw [hAd]; exact Or.inl g
        rw [nt_cl (by omega)]
        have e10 : thI I 0 100 10 i = I 100 10 i := by rw [t100]
        refine And.intro (fun (k : 0 ≤ thI I 0 100 10 i) => ?_) (fun (k : ¬ 0 ≤ thI I 0 100 10 i) => ?_)
        · rw [e10] at k
          refine fgt (g143 _ (al_n ?_).symm) (by repeat (first | exact True.intro | refine And.intro rfl ?_))
          rw [hAd]
          exact fun q => q.elim g (i_nlt.mpr k)
        · rw [e10] at k
          refine fgt (g143 _ (al_y f ?_).symm) (by repeat (first | exact True.intro | refine And.intro rfl ?_))
          rw [hAd]
          exact Or.inr (i_nle.mp k)
    have g86 : ∀ y, (y = 0 ∨ y = 1) → (¬ y = 0 ↔ hgM x w a b) → rf_W l 33 86 [some (.inr (.inr (some (8, 0)))), some (.inl p), some (.inl x), some (.inl w), some (.inl a), some (.inl b), none, none, none, none, none] [.inl y] (sS L (thI I 0) J) 0 0 Q := by
      intro y hy1 hy
      have l0 := loop y hy1 hy 0 (by omega)
      have e3 : thI I 0 101 3 (nn p) = I 101 3 (nn p) := by rw [t101]
      refine rf_goW rf_mo_33 rf_T_33 30 [107] (And.intro a1 (And.intro (fun (f : ¬ thI I 0 101 3 (nn p) = 0) => ?_) (fun (f : thI I 0 101 3 (nn p) = 0) => ?_)))
      · rw [e3] at f
        rw [al_n (A := hA (I 101 3 (nn p) = 0) A) (i := 0) f] at l0
        exact l0
      · rw [e3] at f
        rw [al_y (A := hA (I 101 3 (nn p) = 0) A) (i := 0) (by rw [al_0]; decide) f] at l0
        exact l0
    have no : ¬ hgM x w a b → rf_W l 33 86 [some (.inr (.inr (some (8, 0)))), some (.inl p), some (.inl x), some (.inl w), some (.inl a), some (.inl b), none, none, none, none, none] [.inl 0] (sS L (thI I 0) J) 0 0 Q := fun q => g86 0 (Or.inl rfl) ⟨fun e => absurd rfl e, fun e => absurd e q⟩
    have yes : hgM x w a b → rf_W l 33 86 [some (.inr (.inr (some (8, 0)))), some (.inl p), some (.inl x), some (.inl w), some (.inl a), some (.inl b), none, none, none, none, none] [.inl 1] (sS L (thI I 0) J) 0 0 Q := fun q => g86 1 (Or.inr rfl) ⟨fun _ => q, fun _ => by decide⟩
    have g18 : rf_W l 33 18 [some (.inr (.inr (some (8, 0)))), some (.inl p), some (.inl x), some (.inl w), some (.inl a), some (.inl b), none, none, none, none, none] [] (sS L (thI I 0) J) 0 0 Q := by
      refine rf_goW rf_mo_33 rf_T_33 60 [86] (And.intro (fun _ => ?_) (fun (e : ¬ thI I 0 8 0 0 ≤ 0) => absurd (show thI I 0 8 0 0 ≤ 0 by rw [thI_0]; decide) e))
      refine And.intro (fun e => no fun q => i_nlt.mpr e q.1.1.1) (fun e1 => ?_)
      refine And.intro (fun e => no fun q => i_nlt.mpr e q.1.1.2) (fun e2 => And.intro ⟨by decide, by decide⟩ (d_ones ?_))
      refine And.intro (fun e => no fun q => i_nlt.mpr q.1.2 e) (fun e3 => ?_)
      refine And.intro (fun e => no fun q => i_nlt.mpr q.2.1.1 e) (fun e4 => ?_)
      refine And.intro (fun e => no fun q => i_nlt.mpr q.2.1.2 e) (fun e5 => ?_)
      refine And.intro (fun e => no fun q => i_nlt.mpr q.2.2.1.1 e) (fun e6 => ?_)
      refine And.intro (fun e => no fun q => i_nlt.mpr q.2.2.1.2 e) (fun e7 => ?_)
      refine And.intro (fun e => no fun q => i_nlt.mpr q.2.2.2.1 e) (fun e8 => ?_)
      refine And.intro (fun e => no fun q => i_nlt.mpr q.2.2.2.2 e) (fun e9 => yes ?_)
      exact ⟨⟨⟨i_nle.mp e1, i_nle.mp e2⟩, i_nlt.mp e3⟩, ⟨i_nlt.mp e4, i_nlt.mp e5⟩, ⟨i_nlt.mp e6, i_nlt.mp e7⟩, i_nlt.mp e8, i_nlt.mp e9⟩
    exact g18
  · have g : rf_W l 33 18 [some (.inr (.inr (some (8, 0)))), some (.inl p), some (.inl x), some (.inl w), some (.inl a), some (.inl b), none, none, none, none, none] [] (sS L (thI I 1) J) 0 0 Q := rf_goW rf_mo_33 rf_T_33 30 [] (And.intro (fun (e : thI I 1 8 0 0 ≤ 0) => absurd (thI_0 (I := I) (x := 1) ▸ e) (by decide)) (fun _ => h0 a1))
    exact g
end NF
