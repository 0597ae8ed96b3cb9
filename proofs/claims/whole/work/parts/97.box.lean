/-! the class: box, hang, rehearse -/
section LB
variable {l : Launch} {Q : rf_O → rf_S → Prop} {L : Nat} {I : Nat → Nat → Nat → Int32} {J : Nat → Nat → Nat → Int64} {σ : rf_S}
def szA (w d h : Int32) : Prop := (1 ≤ w ∧ w ≤ 40) ∧ (1 ≤ d ∧ d ≤ 40) ∧ (1 ≤ h ∧ h ≤ 40)
/-- the trial box: the piece's, with new sizes -/
def bxT (I : Nat → Nat → Nat → Int32) (p : Nat) (w d h : Int32) : Nat → Int32 := uf (uf (uf (t5 (I 0 0) (I 0 (1 + p))) 2 w) 3 d) 4 h
theorem c_box {p w d h : Int32} (h0 : ¬ ok p 6 → Q (.inr 0) (sS L I J)) (h1 : ok p 6 → ¬ szA w d h → Q (.inr 1) (sS L I J)) (h2 : ok p 6 → szA w d h → (∃ c, c < 8 ∧ busy I (40 + c)) → Q (.inr 2) (sS L I J))
    (h3 : ok p 6 → szA w d h → ¬ (∃ c, c < 8 ∧ busy I (40 + c)) → ¬ (I 6 (nn p) 1 = 0 ∨ ∀ i, i < 6 → tfit (ro I 0 0 (bxT I (nn p) w d h)) p (I 100 0 (nn p)) i) → Q (.inr 2) (sS L (ro I 0 0 (bxT I (nn p) w d h)) J))
    (hq : ok p 6 → szA w d h → ¬ (∃ c, c < 8 ∧ busy I (40 + c)) → (I 6 (nn p) 1 = 0 ∨ ∀ i, i < 6 → tfit (ro I 0 0 (bxT I (nn p) w d h)) p (I 100 0 (nn p)) i) → Q (.inl none) (sS L (ro (ro I 0 0 (bxT I (nn p) w d h)) 0 (1 + nn p) (t5 (I 0 (1 + nn p)) (bxT I (nn p) w d h))) J)) : rf_C l 45 [.inr (.inr (some (7, 0))), .inl p, .inl w, .inl d, .inl h] (sS L I J) Q := by
  apply rf_C.ofW
  refine rf_goW rf_mo_45 rf_T_45 60 [101] (And.intro ⟨by decide, by decide⟩ (c_checkIx (n := 6) (by decide) (fun a1 => And.intro ⟨by decide, by decide⟩ (c_within2 (fun b1 => br_eq1 (And.intro ⟨by decide, by decide⟩ (c_within2 (fun b2 => br_eq1 (And.intro ⟨by decide, by decide⟩ (c_within2 (fun b3 => br_eq1 (And.intro ⟨by decide, by decide⟩ (ka1 ?_))) (fun b3 => br_eq0 (And.intro ⟨by decide, by decide⟩ (ka0 (h1 a1 fun q => b3 q.2.2))))))) (fun b2 => br_eq0 (And.intro ⟨by decide, by decide⟩ (ka0 (h1 a1 fun q => b2 q.2.1))))))) (fun b1 => br_eq0 (And.intro ⟨by decide, by decide⟩ (ka0 (h1 a1 fun q => b1 q.1)))))) h0))
  have sz : szA w d h := ⟨b1, b2, b3⟩
  refine And.intro ⟨by decide, by decide⟩ (c_anyCueIsBusy (fun hb => br_ne1 (And.intro ⟨by decide, by decide⟩ (ks0 (h2 a1 sz hb)))) (fun hb => br_ne0 (And.intro ⟨by decide, by decide⟩ (ks1 (And.intro a1 (And.intro ⟨by decide, by decide⟩ (c_boxTake ?_)))))))
  have eT : rf_u3 (rf_u3 (rf_u3 (ro I 0 0 (t5 (I 0 0) (I 0 (1 + nn p)))) 0 0 2 w) 0 0 3 d) 0 0 4 h = ro I 0 0 (bxT I (nn p) w d h) := by
    simp only [u3_ro, ro_self, ro_ro]
    rfl
  have e6 : ro I 0 0 (bxT I (nn p) w d h) 6 = I 6 := ro_b (by decide)
  have e100 : ro I 0 0 (bxT I (nn p) w d h) 100 = I 100 := ro_b (by decide)
  have fin : (I 6 (nn p) 1 = 0 ∨ ∀ i, i < 6 → tfit (ro I 0 0 (bxT I (nn p) w d h)) p (I 100 0 (nn p)) i) → rf_W l 45 135 [some (.inr (.inr (some (7, 0)))), some (.inl p), some (.inl w), some (.inl d), some (.inl h)] [.inl 1] (sS L (ro I 0 0 (bxT I (nn p) w d h)) J) 3 18 Q := by
    intro g
    refine rf_goW rf_mo_45 rf_T_45 60 [] (And.intro ⟨by decide, by decide⟩ (ks1 (And.intro a1 (And.intro ⟨by decide, by decide⟩ (c_boxTake ?_)))))
    refine eqS (Q := Q) ?_ (hq a1 sz hb g)
    show sS L (ro (ro I 0 0 (bxT I (nn p) w d h)) 0 (1 + nn p) (t5 (ro I 0 0 (bxT I (nn p) w d h) 0 (1 + nn p)) (ro I 0 0 (bxT I (nn p) w d h) 0 0))) J = _
    rw [ro_self, ro_ne (by omega)]
  have bad : ¬ (I 6 (nn p) 1 = 0 ∨ ∀ i, i < 6 → tfit (ro I 0 0 (bxT I (nn p) w d h)) p (I 100 0 (nn p)) i) → rf_W l 45 135 [some (.inr (.inr (some (7, 0)))), some (.inl p), some (.inl w), some (.inl d), some (.inl h)] [.inl 0] (sS L (ro I 0 0 (bxT I (nn p) w d h)) J) 3 18 Q := fun g => rf_goW rf_mo_45 rf_T_45 60 [] (And.intro ⟨by decide, by decide⟩ (ks0 (h3 a1 sz hb g)))
  have go : rf_W l 45 101 [some (.inr (.inr (some (7, 0)))), some (.inl p), some (.inl w), some (.inl d), some (.inl h)] [] (sS L (ro I 0 0 (bxT I (nn p) w d h)) J) 3 18 Q := by
    refine rf_goW rf_mo_45 rf_T_45 60 [135] (And.intro a1 (And.intro (fun f => fin (Or.inl (by rw [← e6]; exact f))) (fun f => And.intro a1 (And.intro ⟨by decide, by decide⟩ (c_trialFits (fun g => br_eq1 (fin (Or.inr ?_))) (fun g => br_eq0 (bad fun q => ?_)))))))
    · have g' : ∀ i, i < 6 → tfit (ro I 0 0 (bxT I (nn p) w d h)) p (ro I 0 0 (bxT I (nn p) w d h) 100 0 (nn p)) i := g
      rw [e100] at g'
      exact g'
    · refine q.elim (fun r => f (show ro I 0 0 (bxT I (nn p) w d h) 6 (nn p) 1 = 0 by rw [e6]; exact r)) (fun r => g ?_)
      show ∀ i, i < 6 → tfit (ro I 0 0 (bxT I (nn p) w d h)) p (ro I 0 0 (bxT I (nn p) w d h) 100 0 (nn p)) i
      rw [e100]
      exact r
  rw [← eT] at go
  exact go
theorem c_isHoistSet2 {x : Int32} (h1 : (1 ≤ x ∧ x ≤ 4095) ∧ bct x ≤ 3 → Q (.inl (some (.inl 1))) σ) (h0 : ¬ ((1 ≤ x ∧ x ≤ 4095) ∧ bct x ≤ 3) → Q (.inl (some (.inl 0))) σ) : rf_C l 12 [.inl x] σ Q := by
  by_cases hc : (1 ≤ x ∧ x ≤ 4095) ∧ bct x ≤ 3
  · exact c_isHoistSet (by rw [bi_t hc]; exact h1 hc)
  · exact c_isHoistSet (by rw [bi_f hc]; exact h0 hc)
def hgA (x w a b : Int32) : Prop := ((1 ≤ x ∧ x ≤ 4095) ∧ bct x ≤ 3) ∧ (1 ≤ w ∧ w ≤ 10000) ∧ (0 ≤ a ∧ a ≤ 100) ∧ (0 ≤ b ∧ b ≤ 100)
def hgF (I : Nat → Nat → Nat → Int32) (p : Nat) (x : Int32) : Prop := I 6 p 1 = 0 ∧ ∀ i, i < 12 → hb x (Int32.ofNat i) → I 2 i 0 = -1
def hgT (I : Nat → Nat → Nat → Int32) (p : Nat) (a b : Int32) : Nat → Int32 := uf (uf (t5 (I 0 0) (I 0 (1 + p))) 0 a) 1 b
def hg3 (I : Nat → Nat → Nat → Int32) (p : Nat) (x w a b : Int32) : Nat → Nat → Nat → Int32 := ro (ro I 0 0 (hgT I p a b)) 6 p (uf (uf (uf (I 6 p) 1 1) 2 w) 3 (bct x))
def hg4 (I : Nat → Nat → Nat → Int32) (p : Nat) (x w a b : Int32) : Nat → Nat → Nat → Int32 := ro (hg3 I p x w a b) 0 (1 + p) (t5 (I 0 (1 + p)) (hgT I p a b))
def hg5 (I : Nat → Nat → Nat → Int32) (p : Nat) (x w a b : Int32) : Nat → Nat → Nat → Int32 := ms2 (hg4 I p x w a b) 0 (uf (I 100 0) p 0) (uf (I 100 1) p 0)
/-- the drives of the set x hang on the piece, of the first k -/
noncomputable def atI (I : Nat → Nat → Nat → Int32) (x p : Int32) (k : Nat) : Nat → Nat → Nat → Int32 := fun b i f => cif (b = 2 ∧ i < k ∧ hb x (Int32.ofNat i)) (atR (I 2 i) p f) (I b i f)
theorem atI_0 {x p : Int32} : atI I x p 0 = I := by
  funext b i f
  exact cif_f fun q => absurd q.2.1 (by omega)
theorem atI_k {x p : Int32} {k : Nat} : atI I x p k 2 k = I 2 k := by
  funext f
  exact cif_f fun q => absurd q.2.1 (by omega)
theorem atI_y {x p : Int32} {k : Nat} (h : hb x (Int32.ofNat k)) : ro (atI I x p k) 2 k (atR (I 2 k) p) = atI I x p (k + 1) := by
  funext b i f
  by_cases h1 : b = 2 ∧ i = k
  · obtain ⟨rfl, rfl⟩ := h1
    rw [ro_at, atI, cif_t ⟨rfl, by omega, h⟩]
  · rw [ro_ne h1]
    by_cases h2 : b = 2 ∧ i < k ∧ hb x (Int32.ofNat i)
    · rw [atI, cif_t h2, atI, cif_t ⟨h2.1, by omega, h2.2.2⟩]
    · rw [atI, cif_f h2, atI, cif_f fun q => h2 ⟨q.1, by have : ¬ i = k := fun e => h1 ⟨q.1, e⟩
                                                         omega, q.2.2⟩]
theorem atI_n {x p : Int32} {k : Nat} (h : ¬ hb x (Int32.ofNat k)) : atI I x p (k + 1) = atI I x p k := by
  funext b i f
  by_cases h2 : b = 2 ∧ i < k ∧ hb x (Int32.ofNat i)
  · rw [atI, cif_t ⟨h2.1, by omega, h2.2.2⟩, atI, cif_t h2]
  · rw [atI, cif_f fun q => h2 ⟨q.1, by have : ¬ i = k := fun e => h (e ▸ q.2.2)
                                        omega, q.2.2⟩, atI, cif_f h2]
theorem c_hang {p x w a b : Int32} (h0 : ¬ ok p 6 → Q (.inr 0) (sS L I J)) (h1 : ok p 6 → ¬ hgA x w a b → Q (.inr 1) (sS L I J)) (h2 : ok p 6 → hgA x w a b → ¬ hgF I (nn p) x → Q (.inr 2) (sS L I J))
    (h3 : ok p 6 → hgA x w a b → hgF I (nn p) x → ¬ (∀ i, i < 6 → tfit (ro I 0 0 (hgT I (nn p) a b)) p 0 i) → Q (.inr 2) (sS L (ro I 0 0 (hgT I (nn p) a b)) J))
    (hq : ok p 6 → hgA x w a b → hgF I (nn p) x → (∀ i, i < 6 → tfit (ro I 0 0 (hgT I (nn p) a b)) p 0 i) → Q (.inl none) (sS L (atI (hg5 I (nn p) x w a b) x p 12) J)) : rf_C l 25 [.inr (.inr (some (7, 0))), .inl p, .inl x, .inl w, .inl a, .inl b] (sS L I J) Q := by
  apply rf_C.ofW
  refine rf_goW rf_mo_25 rf_T_25 60 [51] (And.intro ⟨by decide, by decide⟩ (c_checkIx (n := 6) (by decide) (fun a1 => ?_) h0))
  have bad : ¬ hgA x w a b → rf_W l 25 51 [some (.inr (.inr (some (7, 0)))), some (.inl p), some (.inl x), some (.inl w), some (.inl a), some (.inl b), none] [.inl 0] (sS L I J) 1 6 Q := fun g => rf_goW rf_mo_25 rf_T_25 60 [] (And.intro ⟨by decide, by decide⟩ (ka0 (h1 a1 g)))
  have good : hgA x w a b → rf_W l 25 51 [some (.inr (.inr (some (7, 0)))), some (.inl p), some (.inl x), some (.inl w), some (.inl a), some (.inl b), none] [.inl 1] (sS L I J) 1 6 Q := by
    intro gA
    refine rf_goW rf_mo_25 rf_T_25 60 [79] (And.intro ⟨by decide, by decide⟩ (ka1 (And.intro a1 ?_)))
    have no : ¬ hgF I (nn p) x → rf_W l 25 79 [some (.inr (.inr (some (7, 0)))), some (.inl p), some (.inl x), some (.inl w), some (.inl a), some (.inl b), none] [.inl 0] (sS L I J) 2 12 Q := fun g => rf_goW rf_mo_25 rf_T_25 60 [] (And.intro ⟨by decide, by decide⟩ (ks0 (h2 a1 gA g)))
    have yes : hgF I (nn p) x → rf_W l 25 79 [some (.inr (.inr (some (7, 0)))), some (.inl p), some (.inl x), some (.inl w), some (.inl a), some (.inl b), none] [.inl 1] (sS L I J) 2 12 Q := by
      intro gF
      have e6 : ro I 0 0 (hgT I (nn p) a b) 6 = I 6 := ro_b (by decide)
      have g186 : (∀ i, i < 6 → tfit (ro I 0 0 (hgT I (nn p) a b)) p 0 i) → ∀ k, k ≤ 12 → rf_W l 25 186 [some (.inr (.inr (some (7, 0)))), some (.inl p), some (.inl x), some (.inl w), some (.inl a), some (.inl b), some (.inl (Int32.ofNat k))] [] (sS L (atI (hg5 I (nn p) x w a b) x p k) J) 4 24 Q := by
        intro gf
        refine lp_dn ?_ ?_
        · exact rf_goW rf_mo_25 rf_T_25 60 [186] (And.intro (fun _ => hq a1 gA gF gf) (fun hd => absurd (Int32.le_refl _) hd))
        · intro k hk ih
          rw [← nt_succ k] at ih
          refine rf_goW rf_mo_25 rf_T_25 60 [186] (And.intro (fun hd => absurd ((nt_le (i := 12) (by omega) (by omega)).mp hd) (by omega)) (fun _ => And.intro ⟨by decide, by decide⟩ (c_hasBit (fun hb => br_eq1 (And.intro (nt_ix (n := 12) hk (by decide)) ?_)) (fun hb => br_eq0 ?_))))
          · rw [nt_cl (by omega)]
            refine And.intro ⟨by decide, by decide⟩ (c_attach ?_)
            rw [← atI_y hb, ← atI_k (I := hg5 I (nn p) x w a b) (x := x) (p := p)] at ih
            exact ih
          · rw [atI_n hb] at ih
            exact ih
      have g174 : (∀ i, i < 6 → tfit (ro I 0 0 (hgT I (nn p) a b)) p 0 i) → rf_W l 25 174 [some (.inr (.inr (some (7, 0)))), some (.inl p), some (.inl x), some (.inl w), some (.inl a), some (.inl b), none] [] (sS L (hg4 I (nn p) x w a b) J) 4 24 Q := by
        intro gf
        have k0 := g186 gf 0 (by omega)
        rw [atI_0] at k0
        refine rf_goW rf_mo_25 rf_T_25 60 [186] (And.intro ⟨by decide, by decide⟩ (c_putAt (i := 0) (by decide) a1 ?_))
        have e100 : hg4 I (nn p) x w a b 100 = I 100 := by rw [hg4, ro_b (by decide), hg3, ro_b (by decide), ro_b (by decide)]
        rw [e100]
        exact k0
      have g125 : (∀ i, i < 6 → tfit (ro I 0 0 (hgT I (nn p) a b)) p 0 i) → rf_W l 25 125 [some (.inr (.inr (some (7, 0)))), some (.inl p), some (.inl x), some (.inl w), some (.inl a), some (.inl b), none] [] (sS L (ro I 0 0 (hgT I (nn p) a b)) J) 4 24 Q := by
        intro gf
        have eV : rf_u3 (rf_u3 (rf_u3 (ro I 0 0 (hgT I (nn p) a b)) 6 (nn p) 1 1) 6 (nn p) 2 w) 6 (nn p) 3 (bct x) = hg3 I (nn p) x w a b := by
          simp only [u3_ro, ro_self, ro_ro, e6]
          rfl
        have hk : ∀ V, V = hg3 I (nn p) x w a b → rf_W l 25 174 [some (.inr (.inr (some (7, 0)))), some (.inl p), some (.inl x), some (.inl w), some (.inl a), some (.inl b), none] [] (rS (sS L V J) 0 (1 + nn p) (t5 (V 0 (1 + nn p)) (V 0 0))) 4 24 Q := by
          rintro _ rfl
          have e0 : hg3 I (nn p) x w a b 0 = ro I 0 0 (hgT I (nn p) a b) 0 := ro_b (by decide)
          rw [e0, ro_self, ro_ne (by omega)]
          exact g174 gf
        exact rf_goW rf_mo_25 rf_T_25 60 [174] (And.intro a1 (And.intro (Or.inr rfl) (And.intro a1 (And.intro a1 (And.intro ⟨by decide, by decide⟩ (c_bitCount (And.intro a1 (And.intro ⟨by decide, by decide⟩ (c_boxTake (hk _ eV)))))))))) 
      have g116 : rf_W l 25 116 [some (.inr (.inr (some (7, 0)))), some (.inl p), some (.inl x), some (.inl w), some (.inl a), some (.inl b), none] [] (sS L (ro I 0 0 (hgT I (nn p) a b)) J) 3 18 Q :=
        rf_goW rf_mo_25 rf_T_25 60 [125] (And.intro ⟨by decide, by decide⟩ (c_trialFits (fun gf => And.intro ⟨by decide, by decide⟩ (ks1 (g125 gf))) (fun gf => And.intro ⟨by decide, by decide⟩ (ks0 (h3 a1 gA gF gf)))))
      have eT : rf_u3 (rf_u3 (ro I 0 0 (t5 (I 0 0) (I 0 (1 + nn p)))) 0 0 0 a) 0 0 1 b = ro I 0 0 (hgT I (nn p) a b) := by
        simp only [u3_ro, ro_self, ro_ro]
        rfl
      rw [← eT] at g116
      exact rf_goW rf_mo_25 rf_T_25 60 [116] (And.intro ⟨by decide, by decide⟩ (ks1 (And.intro a1 (And.intro ⟨by decide, by decide⟩ (c_boxTake g116)))))
    exact And.intro (fun e => no fun q => e q.1) (fun e => And.intro ⟨by decide, by decide⟩ (c_hoistsAreFree (fun g => br_eq1 (yes ⟨e, g⟩)) (fun g => br_eq0 (no fun q => g q.2))))
  exact And.intro ⟨by decide, by decide⟩ (c_isHoistSet2 (fun b1 => br_eq1 (And.intro ⟨by decide, by decide⟩ (c_within2 (fun b2 => br_eq1 (And.intro ⟨by decide, by decide⟩ (c_within2 (fun b3 => br_eq1 (And.intro ⟨by decide, by decide⟩ (c_within2 (fun b4 => br_eq1 (good ⟨b1, b2, b3, b4⟩)) (fun b4 => br_eq0 (bad fun q => b4 q.2.2.2))))) (fun b3 => br_eq0 (bad fun q => b3 q.2.2.1))))) (fun b2 => br_eq0 (bad fun q => b2 q.2.1))))) (fun b1 => br_eq0 (bad fun q => b1 q.1)))
end LB
