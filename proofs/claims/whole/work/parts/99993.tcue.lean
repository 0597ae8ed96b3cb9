/-! the model: a tick of a cue -/
section MT
variable {l : Launch} {Q : rf_O → rf_S → Prop} {L : Nat} {I : Nat → Nat → Nat → Int32} {J : Nat → Nat → Nat → Int64} {σ : rf_S}
def pl (x : Int32) : Prop := 0 ≤ x ∧ x ≤ 400
theorem pl_n {x : Int32} (h : pl x) : nn x ≤ 400 := (nn_le (x := x) (i := 400) h.1 (by decide)).mp h.2
theorem pl_i {x : Int32} (h : pl x) : 0 ≤ x.toInt ∧ x.toInt ≤ 400 := by
  obtain ⟨h1, h2⟩ := h
  rw [Int32.le_iff_toInt_le] at h1 h2
  exact ⟨h1, h2⟩
theorem i_sub {x y : Int32} (hx : pl x) (hy : pl y) : (x - y).toInt = x.toInt - y.toInt := by
  have a := pl_i hx
  have b := pl_i hy
  rw [Int32.toInt_sub]
  exact Int.bmod_eq_of_le (by omega) (by omega)
theorem i_neg {x : Int32} (h : -1000 ≤ x.toInt ∧ x.toInt ≤ 1000) : (-x).toInt = -x.toInt := by
  rw [Int32.toInt_neg]
  exact Int.bmod_eq_of_le (by omega) (by omega)
theorem ab_le {a g : Int32} (ha : pl a) (hg : pl g) (h : g ≤ a) : ab (g - a) = a - g := by
  have a1 := pl_i ha
  have b1 := pl_i hg
  have s1 := i_sub hg ha
  have s2 := i_sub ha hg
  rw [Int32.le_iff_toInt_le] at h
  unfold ab
  rw [← Int32.toInt_inj]
  split
  · next q =>
    rw [Int32.le_iff_toInt_le] at q
    have : (0 : Int32).toInt = 0 := rfl
    omega
  · rw [i_neg (by omega)]
    omega
theorem ab_gt {a g : Int32} (ha : pl a) (hg : pl g) (h : ¬ g ≤ a) : ab (g - a) = g - a := by
  have a1 := pl_i ha
  have b1 := pl_i hg
  have s1 := i_sub hg ha
  rw [Int32.le_iff_toInt_le] at h
  unfold ab
  rw [if_pos]
  rw [Int32.le_iff_toInt_le]
  have : (0 : Int32).toInt = 0 := rfl
  omega
theorem ab_i {a g : Int32} (ha : pl a) (hg : pl g) : 0 ≤ (ab (g - a)).toInt ∧ (ab (g - a)).toInt = (if g.toInt ≤ a.toInt then a.toInt - g.toInt else g.toInt - a.toInt) := by
  by_cases h : g ≤ a
  · rw [ab_le ha hg h, i_sub ha hg]
    rw [Int32.le_iff_toInt_le] at h
    rw [if_pos h]
    exact ⟨by omega, rfl⟩
  · rw [ab_gt ha hg h, i_sub hg ha]
    rw [Int32.le_iff_toInt_le] at h
    rw [if_neg h]
    exact ⟨by omega, rfl⟩
theorem ab_0 {a g : Int32} (ha : pl a) (hg : pl g) : 0 ≤ ab (g - a) := by
  rw [Int32.le_iff_toInt_le]
  exact (ab_i ha hg).1
/-- what is asked where a move goes -/
def gOk (P : Nat → Nat → Int32) (h : Int32) (s : (Nat → Int32) × (Nat → Int32)) (m : Nat) : Prop :=
  pl (P 1 m) ∧ pl (s.1 (nn (P 0 m))) ∧ (P 1 m = s.1 (nn (P 0 m)) → adU (s.2 (nn (P 0 m))) (P 2 m) 0 h = 0)
/-- the model's rows of places and speeds anew -/
def av2 (I : Nat → Nat → Nat → Int32) (s : (Nat → Int32) × (Nat → Int32)) : Nat → Nat → Nat → Int32 := ro (ro I 100 23 s.1) 100 24 s.2
theorem av2_id : av2 I (I 100 23, I 100 24) = I := by
  show ro (ro I 100 23 (I 100 23)) 100 24 (I 100 24) = I
  rw [ro_id, ro_id]
theorem av2_2 {s s' : (Nat → Int32) × (Nat → Int32)} : av2 (av2 I s) s' = av2 I s' := by
  unfold av2
  rw [ro_comm (I := ro I 100 23 s.1) (by decide), ro_ro, ro_ro]
theorem av2_b {b : Nat} {s : (Nat → Int32) × (Nat → Int32)} (h : ¬ b = 100) : av2 I s b = I b := by rw [av2, ro_b h, ro_b h]
theorem av2_a {s : (Nat → Int32) × (Nat → Int32)} : av2 I s 100 23 = s.1 := by rw [av2, ro_ne (by decide), ro_self]
theorem av2_v {s : (Nat → Int32) × (Nat → Int32)} : av2 I s 100 24 = s.2 := ro_self
theorem av2_o {k : Nat} {s : (Nat → Int32) × (Nat → Int32)} (h1 : ¬ k = 23) (h2 : ¬ k = 24) : av2 I s 100 k = I 100 k := by rw [av2, ro_ne (by omega), ro_ne (by omega)]
theorem tc_body {c m : Nat} {h x3 x4 : Int32} (hc : c < 8) (hm : m < 4) (hp : ok (mP I c 0 m) 6) (ht : ok (mP I c 2 m) 13) (ha : mP I c 3 m = -1 ∨ (ok (mP I c 3 m) 4 ∧ ok (mP I c 0 (nn (mP I c 3 m))) 6)) (hv : ok (I 100 24 (nn (mP I c 0 m))) 13) (hg : gOk (mP I c) h (I 100 23, I 100 24) m)
    (hq : ∀ s, s = cif (mayG (mP I c) (mB I c) (I 100 23) m) (adv1 (I 100 23, I 100 24) (nn (mP I c 0 m)) (mP I c 1 m) (mP I c 2 m) h) (I 100 23, I 100 24) → rf_W l 130 230 [some (.inr (.inr (some (8, 0)))), some (.inl (Int32.ofNat c)), some (.inl h), some (.inl x3), some (.inl x4), some (.inl (Int32.ofNat m)), some (.inl (4 * Int32.ofNat c + Int32.ofNat m)), some (.inl (mP I c 0 m)), none, none] [] (sS L (av2 I s) J) 0 0 Q) :
    rf_W l 130 31 [some (.inr (.inr (some (8, 0)))), some (.inl (Int32.ofNat c)), some (.inl h), some (.inl x3), some (.inl x4), some (.inl (Int32.ofNat m)), none, none, none, none] [] (sS L I J) 0 0 Q := by
  obtain ⟨hg1, hg2, hg3⟩ := hg
  have i32 := ix32 hc hm
  have n32 := nn4 hc hm
  -- behind the move
  have g185 : mayG (mP I c) (mB I c) (I 100 23) m → ∀ u, u = adU (I 100 24 (nn (mP I c 0 m))) (mP I c 2 m) (ab (mP I c 1 m - I 100 23 (nn (mP I c 0 m)))) h → rf_W l 130 185 [some (.inr (.inr (some (8, 0)))), some (.inl (Int32.ofNat c)), some (.inl h), some (.inl x3), some (.inl x4), some (.inl (Int32.ofNat m)), some (.inl (4 * Int32.ofNat c + Int32.ofNat m)), some (.inl (mP I c 0 m)), none, none] [] (sS L (ro I 100 24 (uf (I 100 24) (nn (mP I c 0 m)) u)) J) 0 0 Q := by
    intro hz u hu
    have hq' := hq (adv1 (I 100 23, I 100 24) (nn (mP I c 0 m)) (mP I c 1 m) (mP I c 2 m) h) (by rw [cif_t hz])
    rw [adv1] at hq'
    simp only [← hu] at hq'
    have e23 : ro I 100 24 (uf (I 100 24) (nn (mP I c 0 m)) u) 100 23 = I 100 23 := ro_ne (by decide)
    have e31 : ro I 100 24 (uf (I 100 24) (nn (mP I c 0 m)) u) 100 31 (4 * c + m) = mP I c 1 m := by rw [ro_ne (by decide)]; rfl
    have e24 : ro I 100 24 (uf (I 100 24) (nn (mP I c 0 m)) u) 100 24 (nn (mP I c 0 m)) = u := by rw [ro_self]; simp [uf]
    have fin : ∀ w, w = adP (I 100 23 (nn (mP I c 0 m))) (mP I c 1 m) u → rf_W l 130 230 [some (.inr (.inr (some (8, 0)))), some (.inl (Int32.ofNat c)), some (.inl h), some (.inl x3), some (.inl x4), some (.inl (Int32.ofNat m)), some (.inl (4 * Int32.ofNat c + Int32.ofNat m)), some (.inl (mP I c 0 m)), none, none] [] (sS L (rf_u3 (ro I 100 24 (uf (I 100 24) (nn (mP I c 0 m)) u)) 100 23 (nn (mP I c 0 m)) w) J) 0 0 Q := by
      rintro w rfl
      rw [u3_ro, e23, ro_comm (by decide)]
      exact hq'
    refine rf_goW rf_mo_130 rf_T_130 60 [230] (And.intro hp (And.intro i32 (And.intro hp ?_)))
    rw [n32]
    refine And.intro (fun (f : ro I 100 24 (uf (I 100 24) (nn (mP I c 0 m)) u) 100 31 (4 * c + m) ≤ ro I 100 24 (uf (I 100 24) (nn (mP I c 0 m)) u) 100 23 (nn (mP I c 0 m))) => And.intro hp (And.intro hp (fin _ ?_))) (fun (f : ¬ ro I 100 24 (uf (I 100 24) (nn (mP I c 0 m)) u) 100 31 (4 * c + m) ≤ ro I 100 24 (uf (I 100 24) (nn (mP I c 0 m)) u) 100 23 (nn (mP I c 0 m))) => And.intro hp (And.intro hp (fin _ ?_)))
    · rw [e31, e23] at f
      show ro I 100 24 (uf (I 100 24) (nn (mP I c 0 m)) u) 100 23 (nn (mP I c 0 m)) + -(ro I 100 24 (uf (I 100 24) (nn (mP I c 0 m)) u) 100 24 (nn (mP I c 0 m))) = _
      rw [e23, e24, adP]
      by_cases q : mP I c 1 m < I 100 23 (nn (mP I c 0 m))
      · rw [if_pos q]
      · have q' : mP I c 1 m = I 100 23 (nn (mP I c 0 m)) := Int32.le_antisymm f (i_nlt.mp q)
        have : u = 0 := by
          rw [hu, q', Int32.sub_self]
          exact hg3 q'
        rw [if_neg q, this]
        rfl
    · rw [e31, e23] at f
      show ro I 100 24 (uf (I 100 24) (nn (mP I c 0 m)) u) 100 23 (nn (mP I c 0 m)) + (ro I 100 24 (uf (I 100 24) (nn (mP I c 0 m)) u) 100 24 (nn (mP I c 0 m))) = _
      rw [e23, e24, adP, if_neg (fun q => f (Int32.le_of_lt q))]
  have g156 : mayG (mP I c) (mB I c) (I 100 23) m → ∀ x, x = ab (mP I c 1 m - I 100 23 (nn (mP I c 0 m))) → rf_W l 130 156 [some (.inr (.inr (some (8, 0)))), some (.inl (Int32.ofNat c)), some (.inl h), some (.inl x3), some (.inl x4), some (.inl (Int32.ofNat m)), some (.inl (4 * Int32.ofNat c + Int32.ofNat m)), some (.inl (mP I c 0 m)), none, none] [.inl x] (sS L I J) 0 0 Q := by
    rintro hz _ rfl
    refine rf_goW rf_mo_130 rf_T_130 60 [185] (And.intro hp (And.intro i32 ?_))
    rw [n32]
    refine And.intro ⟨by decide, by decide⟩ (d_faster hv ht (ab_0 hg2 hg1) (And.intro hp ?_))
    have q := g185 hz _ rfl
    rw [← u3_ro] at q
    exact fgt q (by repeat (first | exact True.intro | refine And.intro rfl ?_))
  have g106 : mayG (mP I c) (mB I c) (I 100 23) m → rf_W l 130 106 [some (.inr (.inr (some (8, 0)))), some (.inl (Int32.ofNat c)), some (.inl h), some (.inl x3), some (.inl x4), some (.inl (Int32.ofNat m)), some (.inl (4 * Int32.ofNat c + Int32.ofNat m)), some (.inl (mP I c 0 m)), none, none] [] (sS L I J) 0 0 Q := by
    intro hz
    refine rf_goW rf_mo_130 rf_T_130 60 [156] (And.intro i32 (And.intro hp ?_))
    rw [n32]
    refine And.intro (fun (f : mP I c 1 m ≤ I 100 23 (nn (mP I c 0 m))) => And.intro hp (And.intro i32 ?_)) (fun (f : ¬ mP I c 1 m ≤ I 100 23 (nn (mP I c 0 m))) => And.intro i32 (And.intro hp ?_))
    · rw [n32]
      exact g156 hz _ (ab_le hg2 hg1 f).symm
    · rw [n32]
      exact g156 hz _ (ab_gt hg2 hg1 f).symm
  have g230 : ¬ mayG (mP I c) (mB I c) (I 100 23) m → rf_W l 130 230 [some (.inr (.inr (some (8, 0)))), some (.inl (Int32.ofNat c)), some (.inl h), some (.inl x3), some (.inl x4), some (.inl (Int32.ofNat m)), some (.inl (4 * Int32.ofNat c + Int32.ofNat m)), some (.inl (mP I c 0 m)), none, none] [] (sS L I J) 0 0 Q := by
    intro hz
    have q := hq _ (cif_f hz).symm
    rw [av2_id] at q
    exact q
  refine rf_goW rf_mo_130 rf_T_130 60 [106, 230, 62] (And.intro i32 (And.intro i32 ?_))
  rw [n32]
  refine And.intro (fun (e : mP I c 3 m < 0) => ?_) (fun (e : ¬ mP I c 3 m < 0) => ?_)
  · have a3 : mP I c 3 m = -1 := ha.elim id fun q => absurd e (i_nlt.mpr q.1.1)
    exact fgt (g106 (Or.inl a3)) (by repeat (first | exact True.intro | refine And.intro rfl ?_))
  · have a3 : ¬ mP I c 3 m = -1 := fun q => by rw [q] at e; exact absurd (by decide) e
    obtain ⟨o1, o2⟩ := ha.elim (fun q => absurd q a3) id
    have g62 : rf_W l 130 62 [some (.inr (.inr (some (8, 0)))), some (.inl (Int32.ofNat c)), some (.inl h), some (.inl x3), some (.inl x4), some (.inl (Int32.ofNat m)), some (.inl (4 * Int32.ofNat c + Int32.ofNat m)), some (.inl (mP I c 0 m)), some (.inl (mP I c 3 m)), none] [] (sS L I J) 0 0 Q := by
      refine rf_goW rf_mo_130 rf_T_130 60 [106, 230] (And.intro (ixo hc o1) (And.intro (ixo hc o1) ?_))
      rw [nno hc o1]
      refine And.intro o2 (And.intro i32 ?_)
      rw [n32]
      have hk : ∀ x, x = Int32.ofNat (nn (mP I c 3 m)) → ∀ Q' : rf_O → rf_S → Prop, (rchd (mP I c 1 (nn (mP I c 3 m))) (mB I c (nn (mP I c 3 m))) (I 100 23 (nn (mP I c 0 (nn (mP I c 3 m))))) (mP I c 4 m) → Q' (.inl (some (.inl 1))) (sS L I J)) → (¬ rchd (mP I c 1 (nn (mP I c 3 m))) (mB I c (nn (mP I c 3 m))) (I 100 23 (nn (mP I c 0 (nn (mP I c 3 m))))) (mP I c 4 m) → Q' (.inl (some (.inl 0))) (sS L I J)) → rf_C l 86 [.inr (.inr (some (8, 0))), .inl (Int32.ofNat c), .inl x, .inl (mB I c (nn (mP I c 3 m))), .inl (I 100 23 (nn (mP I c 0 (nn (mP I c 3 m))))), .inl (mP I c 4 m)] (sS L I J) Q' := by
        rintro _ rfl Q' q1 q2
        exact d_hasReached hc o1.2 q1 q2
      exact And.intro ⟨by decide, by decide⟩ (hk _ (nn_of o1.1).symm _ (fun r => br_eq1 (fgt (g106 (Or.inr r)) (by repeat (first | exact True.intro | refine And.intro rfl ?_)))) (fun r => br_eq0 (fgt (g230 fun q => q.elim a3 r) (by repeat (first | exact True.intro | refine And.intro rfl ?_)))))
    exact g62
end MT
