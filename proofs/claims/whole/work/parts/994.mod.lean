/-! the model: what only looks -/
section MD
variable {l : Launch} {Q : rf_O → rf_S → Prop} {L : Nat} {I : Nat → Nat → Nat → Int32} {J : Nat → Nat → Nat → Int64} {σ : rf_S}
theorem d_isNumber {x : Int32} {n : Nat} (hn : n < 2147483648) (h1 : ok x n → Q (.inl (some (.inl 1))) σ) (h0 : ¬ ok x n → Q (.inl (some (.inl 0))) σ) : rf_C l 27 [.inl x, .inl (Int32.ofNat n)] σ Q := by
  apply rf_C.ofW
  refine rf_goW rf_mo_27 rf_T_27 20 [] (And.intro (fun e => And.intro (Or.inl rfl) (h0 fun q => i_nlt.mpr q.1 e)) (fun e => And.intro (fun f => And.intro (Or.inl rfl) (h0 fun q => ?_)) (fun f => And.intro (Or.inr rfl) (h1 ((ck_ok hn).mp ⟨i_nlt.mp e, i_nle.mp f⟩)))))
  exact i_nlt.mpr f ((ck_ok hn).mpr q).2
def ovl (a s b t : Int32) : Prop := a < b + t ∧ b < a + s
theorem d_overlap {a s b t : Int32} (h1 : ovl a s b t → Q (.inl (some (.inl 1))) σ) (h0 : ¬ ovl a s b t → Q (.inl (some (.inl 0))) σ) : rf_C l 29 [.inl a, .inl s, .inl b, .inl t] σ Q := by
  apply rf_C.ofW
  exact rf_goW rf_mo_29 rf_T_29 20 [] (And.intro (fun e => And.intro (Or.inl rfl) (h0 fun q => i_nlt.mpr e q.1)) (fun e => And.intro (fun f => And.intro (Or.inl rfl) (h0 fun q => i_nlt.mpr f q.2)) (fun f => And.intro (Or.inr rfl) (h1 ⟨i_nle.mp e, i_nle.mp f⟩))))
/-- two pieces beside one another no more, in the model's rows -/
def bsd (I : Nat → Nat → Nat → Int32) (a b : Nat) : Prop := ovl (I 100 21 a) (I 100 18 a) (I 100 21 b) (I 100 18 b) ∧ ovl (I 100 22 a) (I 100 19 a) (I 100 22 b) (I 100 19 b)
theorem d_besideOne {a b : Int32} (ha : ok a 6) (hb : ok b 6) (h1 : bsd I (nn a) (nn b) → Q (.inl (some (.inl 1))) (sS L I J)) (h0 : ¬ bsd I (nn a) (nn b) → Q (.inl (some (.inl 0))) (sS L I J)) : rf_C l 30 [.inr (.inr (some (8, 0))), .inl a, .inl b] (sS L I J) Q := by
  apply rf_C.ofW
  refine rf_goW rf_mo_30 rf_T_30 60 [] (And.intro ha (And.intro ha (And.intro hb (And.intro hb (And.intro ⟨by decide, by decide⟩ (d_overlap (fun e => br_eq1 ?_) (fun e => br_eq0 (And.intro (Or.inl rfl) (h0 fun q => e q.1)))))))))
  exact And.intro ha (And.intro ha (And.intro hb (And.intro hb (And.intro ⟨by decide, by decide⟩ (d_overlap (fun f => br_eq1 (And.intro (Or.inr rfl) (h1 ⟨e, f⟩))) (fun f => br_eq0 (And.intro (Or.inl rfl) (h0 fun q => f q.2))))))))
def hov (I : Nat → Nat → Nat → Int32) (a b : Nat) (x y : Int32) : Prop := ovl (x - I 100 20 a) (I 100 20 a) (y - I 100 20 b) (I 100 20 b)
theorem d_meetAt {a b x y : Int32} (ha : ok a 6) (hb : ok b 6) (h1 : bsd I (nn a) (nn b) ∧ hov I (nn a) (nn b) x y → Q (.inl (some (.inl 1))) (sS L I J)) (h0 : ¬ (bsd I (nn a) (nn b) ∧ hov I (nn a) (nn b) x y) → Q (.inl (some (.inl 0))) (sS L I J)) : rf_C l 31 [.inr (.inr (some (8, 0))), .inl a, .inl x, .inl b, .inl y] (sS L I J) Q := by
  apply rf_C.ofW
  refine rf_goW rf_mo_31 rf_T_31 60 [] (And.intro ⟨by decide, by decide⟩ (d_besideOne ha hb (fun e => br_eq1 ?_) (fun e => br_eq0 (And.intro (Or.inl rfl) (h0 fun q => e q.1)))))
  exact And.intro ha (And.intro ha (And.intro hb (And.intro hb (And.intro ⟨by decide, by decide⟩ (d_overlap (fun f => br_eq1 (And.intro (Or.inr rfl) (h1 ⟨e, f⟩))) (fun f => br_eq0 (And.intro (Or.inl rfl) (h0 fun q => f q.2))))))))
theorem d_isActive {c : Nat} (hc : c < 8) (h1 : bsy (I 100 27 c) → Q (.inl (some (.inl 1))) (sS L I J)) (h0 : ¬ bsy (I 100 27 c) → Q (.inl (some (.inl 0))) (sS L I J)) : rf_C l 40 [.inr (.inr (some (8, 0))), .inl (Int32.ofNat c)] (sS L I J) Q := by
  apply rf_C.ofW
  have i8 := nt_ix (n := 8) hc (by decide)
  refine rf_goW rf_mo_40 rf_T_40 60 [] (And.intro i8 ?_)
  rw [nt_cl (by omega)]
  refine And.intro (fun e => And.intro (Or.inr rfl) (h1 (Or.inl e))) (fun e => And.intro i8 ?_)
  rw [nt_cl (by omega)]
  refine And.intro (fun f => And.intro (Or.inr rfl) (h1 (Or.inr (Or.inl f)))) (fun f => And.intro i8 ?_)
  rw [nt_cl (by omega)]
  refine And.intro (fun g => And.intro (Or.inl rfl) (h0 fun q => ?_)) (fun g => And.intro (Or.inr rfl) (h1 (Or.inr (Or.inr g))))
  exact q.elim e fun r => r.elim f g
/-- the model's plan of a cue, by field and move -/
def mP (I : Nat → Nat → Nat → Int32) (c f : Nat) : Nat → Int32 := fun m => I 100 (30 + f) (4 * c + m)
def mN (I : Nat → Nat → Nat → Int32) (c : Nat) : Nat := nn (I 100 29 c)
theorem ix4 {c m : Nat} (hc : c < 8) (hm : m < 4) : 4 * Int32.ofNat c + Int32.ofNat m = Int32.ofNat (4 * c + m) := by
  have : (4 : Int32) * Int32.ofNat c = Int32.ofNat (4 * c) := nt_mul 4 c
  rw [this, nt_add]
theorem ix32 {c m : Nat} (hc : c < 8) (hm : m < 4) : 0 ≤ 4 * Int32.ofNat c + Int32.ofNat m ∧ (4 * Int32.ofNat c + Int32.ofNat m).toNatClampNeg < 32 := by
  rw [ix4 hc hm]
  exact nt_ix (n := 32) (by omega) (by decide)
theorem nn4 {c m : Nat} (hc : c < 8) (hm : m < 4) : (4 * Int32.ofNat c + Int32.ofNat m).toNatClampNeg = 4 * c + m := by
  rw [ix4 hc hm]
  exact nt_cl (by omega)
theorem d_moveFor {c : Nat} {p : Int32} (hc : c < 8) (hn : ok (I 100 29 c) 5) (h1 : ∀ m, m < mN I c → mP I c 0 m = p → (∀ j, j < m → ¬ mP I c 0 j = p) → Q (.inl (some (.inl (Int32.ofNat m)))) (sS L I J)) (h0 : (∀ m, m < mN I c → ¬ mP I c 0 m = p) → Q (.inl (some (.inl (-1)))) (sS L I J)) : rf_C l 41 [.inr (.inr (some (8, 0))), .inl (Int32.ofNat c), .inl p] (sS L I J) Q := by
  apply rf_C.ofW
  refine rf_goW rf_mo_41 rf_T_41 3 [2] ?_
  have hb : nn (I 100 29 c) < 5 := hn.2
  have i8 := nt_ix (n := 8) hc (by decide)
  have key : ∀ i, i ≤ mN I c → (∀ j, j < i → ¬ mP I c 0 j = p) → rf_W l 41 2 [some (.inr (.inr (some (8, 0)))), some (.inl (Int32.ofNat c)), some (.inl p), some (.inl (Int32.ofNat i))] [] (sS L I J) 0 0 Q := by
    have le : ∀ i, i < 10 → (I 100 29 c ≤ Int32.ofNat i ↔ mN I c ≤ i) := fun i hi => nn_le hn.1 (by omega)
    refine lp_dn ?_ ?_
    · intro hj
      have e := (le (mN I c) (by show nn _ < 10; omega)).mpr (Nat.le_refl _)
      refine rf_goW rf_mo_41 rf_T_41 60 [2] (And.intro i8 ?_)
      rw [nt_cl (by omega)]
      refine And.intro (fun _ => And.intro i8 ?_) (fun hd => absurd e hd)
      rw [nt_cl (by omega)]
      exact And.intro (fun _ => h0 hj) (fun hd => absurd e hd)
    · intro i hi ih hj
      have hi5 : i < 4 := by have : mN I c < 5 := hb
                             omega
      have e : ¬ I 100 29 c ≤ Int32.ofNat i := fun q => absurd ((le i (by omega)).mp q) (by omega)
      rw [← nt_succ i] at ih
      refine rf_goW rf_mo_41 rf_T_41 60 [2] (And.intro i8 ?_)
      rw [nt_cl (by omega)]
      refine And.intro (fun hd => absurd hd e) (fun _ => And.intro (ix32 hc hi5) ?_)
      rw [nn4 hc hi5]
      refine And.intro (fun f => And.intro i8 ?_) (fun f => ih fun j hji => ?_)
      · rw [nt_cl (by omega)]
        exact And.intro (fun hd => absurd hd e) (fun _ => h1 i hi f hj)
      · by_cases e' : j = i
        · rw [e']; exact f
        · exact hj j (by omega)
  exact key 0 (by omega) (fun _ h => absurd h (by omega))
def mHas (I : Nat → Nat → Nat → Int32) (c : Nat) (p : Int32) : Prop := ∃ m, m < mN I c ∧ mP I c 0 m = p
def mz (I : Nat → Nat → Nat → Int32) (p : Int32) (c : Nat) : Prop := bsy (I 100 27 c) ∧ mHas I c p
theorem d_mover {p : Int32} (hn : ∀ c, c < 8 → ok (I 100 29 c) 5) (h1 : ∀ c, c < 8 → mz I p c → (∀ j, j < c → ¬ mz I p j) → Q (.inl (some (.inl (Int32.ofNat c)))) (sS L I J)) (h0 : (∀ c, c < 8 → ¬ mz I p c) → Q (.inl (some (.inl (-1)))) (sS L I J)) : rf_C l 42 [.inr (.inr (some (8, 0))), .inl p] (sS L I J) Q := by
  apply rf_C.ofW
  refine rf_goW rf_mo_42 rf_T_42 3 [2] ?_
  have key : ∀ i, i ≤ 8 → (∀ j, j < i → ¬ mz I p j) → rf_W l 42 2 [some (.inr (.inr (some (8, 0)))), some (.inl p), some (.inl (Int32.ofNat i))] [] (sS L I J) 0 0 Q := by
    refine lp_dn ?_ ?_
    · intro hj
      exact rf_goW rf_mo_42 rf_T_42 60 [2] (And.intro (fun _ => And.intro (fun _ => h0 hj) (fun hd => absurd (Int32.le_refl _) hd)) (fun hd => absurd (Int32.le_refl _) hd))
    · intro i hi ih hj
      rw [← nt_succ i] at ih
      have nx : ¬ mz I p i → ∀ j, j < i + 1 → ¬ mz I p j := fun hz j hji => by
        by_cases e' : j = i
        · rw [e']; exact hz
        · exact hj j (by omega)
      have no : ¬ (8 : Int32) ≤ Int32.ofNat i := fun hd => absurd ((nt_le (i := 8) (by omega) (by omega)).mp hd) (by omega)
      refine rf_goW rf_mo_42 rf_T_42 60 [2] (And.intro (fun hd => absurd hd no) (fun _ => And.intro ⟨by decide, by decide⟩ (d_isActive hi (fun ha => br_eq1 ?_) (fun ha => br_eq0 (ih (nx fun q => ha q.1))))))
      refine And.intro ⟨by decide, by decide⟩ (d_moveFor hi (hn i hi) (fun m hm e _ => And.intro (fun _ => And.intro (fun hd => absurd hd no) (fun _ => h1 i hi ⟨ha, m, hm, e⟩ hj)) (fun hd => absurd ?_ hd)) (fun hz => And.intro (fun hd => absurd hd (by decide)) (fun _ => ih (nx fun q => q.2.elim fun m r => hz m r.1 r.2))))
      have h5 : nn (I 100 29 i) < 5 := (hn i hi).2
      exact (nt_le (i := 0) (by omega) (by have : m < nn (I 100 29 i) := hm
                                           omega)).mpr (by omega)
  exact key 0 (by omega) (fun _ h => absurd h (by omega))
theorem d_isSize {x : Int32} (h1 : 1 ≤ x ∧ x ≤ 40 → Q (.inl (some (.inl 1))) σ) (h0 : ¬ (1 ≤ x ∧ x ≤ 40) → Q (.inl (some (.inl 0))) σ) : rf_C l 47 [.inl x] σ Q := by
  apply rf_C.ofW
  exact rf_goW rf_mo_47 rf_T_47 20 [] (And.intro (fun e => And.intro (Or.inl rfl) (h0 fun q => i_nlt.mpr q.1 e)) (fun e => And.intro (fun f => And.intro (Or.inl rfl) (h0 fun q => i_nlt.mpr q.2 f)) (fun f => And.intro (Or.inr rfl) (h1 ⟨i_nlt.mp e, i_nlt.mp f⟩))))
theorem d_thrown (hq : Q (.inl (some (.inl (I 8 0 0)))) (sS L I J)) : rf_C l 34 [.inr (.inr (some (8, 0)))] (sS L I J) Q := by
  apply rf_C.ofW
  exact rf_goW rf_mo_34 rf_T_34 20 [] hq
theorem d_version (hq : Q (.inl (some (.inl (I 8 0 32)))) (sS L (rf_u3 I 8 0 0 0) J)) : rf_C l 164 [.inr (.inr (some (8, 0)))] (sS L I J) Q := by
  apply rf_C.ofW
  refine rf_goW rf_mo_164 rf_T_164 20 [] ?_
  show Q (.inl (some (.inl (rf_u3 I 8 0 0 0 8 0 32)))) _
  rw [u3_f (by decide) 0]
  exact hq
end MD
