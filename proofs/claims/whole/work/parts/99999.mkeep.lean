/-! the model: an edit is kept -/
section MY
variable {l : Launch} {Q : rf_O → rf_S → Prop} {L : Nat} {I : Nat → Nat → Nat → Int32} {J : Nat → Nat → Nat → Int64} {σ : rf_S}
def sft (r : Nat → Int32) (d k : Nat) : Nat → Int32 := fun i => if i < k then r (i + d) else r i
theorem sft_0 {r : Nat → Int32} {d : Nat} : sft r d 0 = r := by
  funext i
  rw [sft, if_neg (by omega)]
theorem sft_s {r : Nat → Int32} {d k : Nat} : uf (sft r d k) k (sft r d k (k + d)) = sft r d (k + 1) := by
  have e : sft r d k (k + d) = r (k + d) := by rw [sft, if_neg (by omega)]
  rw [e]
  funext i
  by_cases h : i = k
  · subst h
    rw [uf, if_pos rfl, sft, if_pos (by omega)]
  · rw [uf, if_neg h]
    by_cases h2 : i < k
    · rw [sft, if_pos h2, sft, if_pos (by omega)]
    · rw [sft, if_neg h2, sft, if_neg (by omega)]
/-- the kept plans, the kept cues, their number -/
def kpS (I : Nat → Nat → Nat → Int32) (a b : Nat → Int32) (x : Int32) : Nat → Nat → Nat → Int32 := rf_u3 (ro (ro I 100 36 a) 100 37 b) 8 0 31 x
theorem kpS_id : kpS I (I 100 36) (I 100 37) (I 8 0 31) = I := by
  have e : ro (ro I 100 36 (I 100 36)) 100 37 (I 100 37) = I := by rw [ro_id, ro_id]
  unfold kpS
  rw [e, u3_id]
theorem kpS_a {a b : Nat → Int32} {x : Int32} : kpS I a b x 100 36 = a := by rw [kpS, u3_b (by decide), ro_ne (by decide), ro_self]
theorem kpS_b {a b : Nat → Int32} {x : Int32} : kpS I a b x 100 37 = b := by rw [kpS, u3_b (by decide), ro_self]
theorem kpS_x {a b : Nat → Int32} {x : Int32} : kpS I a b x 8 0 31 = x := by simp [kpS, rf_u3]
theorem kpS_o {a b : Nat → Int32} {x : Int32} {k : Nat} (h1 : ¬ k = 36) (h2 : ¬ k = 37) : kpS I a b x 100 k = I 100 k := by rw [kpS, u3_b (by decide), ro_ne (by omega), ro_ne (by omega)]
theorem kpS_101 {a b : Nat → Int32} {x : Int32} : kpS I a b x 101 = I 101 := by rw [kpS, u3_b (by decide), ro_b (by decide), ro_b (by decide)]
theorem kpS_8 {a b : Nat → Int32} {x : Int32} {f : Nat} (h : ¬ f = 31) : kpS I a b x 8 0 f = I 8 0 f := by rw [kpS, u3_f h, ro_b (by decide), ro_b (by decide)]
theorem kpS_ua {a b : Nat → Int32} {x y : Int32} {j : Nat} : rf_u3 (kpS I a b x) 100 36 j y = kpS I (uf a j y) b x := by
  rw [u3_ro, kpS_a]
  funext b' i f
  by_cases h1 : b' = 100
  · subst h1
    by_cases h2 : i = 36
    · subst h2; simp [kpS, ro, rf_u3]
    · simp [kpS, ro, rf_u3, h2]
  · simp [kpS, ro, rf_u3, h1]
theorem kpS_ub {a b : Nat → Int32} {x y : Int32} {j : Nat} : rf_u3 (kpS I a b x) 100 37 j y = kpS I a (uf b j y) x := by
  rw [u3_ro, kpS_b]
  funext b' i f
  by_cases h1 : b' = 100
  · subst h1
    by_cases h2 : i = 37
    · subst h2; simp [kpS, ro, rf_u3]
    · simp [kpS, ro, rf_u3, h2]
  · simp [kpS, ro, rf_u3, h1]
theorem kpS_ux {a b : Nat → Int32} {x y : Int32} : rf_u3 (kpS I a b x) 8 0 31 y = kpS I a b y := u3_u3
/-- the entry E of the kept plans: m moves of it are written -/
def kpR (r : Nat → Int32) (E : Nat) (st mv : Int32) (P : Nat → Nat → Int32) (m : Nat) : Nat → Int32 := fun j => if j = 23 * E then st else if j = 23 * E + 1 then mv else if 23 * E + 3 ≤ j ∧ j < 23 * E + 3 + 5 * m then P ((j - (23 * E + 3)) % 5) ((j - (23 * E + 3)) / 5) else r j
theorem kpR_0 {r : Nat → Int32} {E : Nat} {st mv : Int32} {P : Nat → Nat → Int32} : uf (uf r (23 * E) st) (23 * E + 1) mv = kpR r E st mv P 0 := by
  funext j
  unfold kpR uf
  by_cases h1 : j = 23 * E
  · rw [if_neg (by omega), if_pos h1, if_pos h1]
  · rw [if_neg h1, if_neg h1]
    by_cases h2 : j = 23 * E + 1
    · rw [if_pos h2, if_pos h2]
    · rw [if_neg h2, if_neg h2, if_neg (by omega)]
theorem kpR_s {r : Nat → Int32} {E m : Nat} {st mv : Int32} {P : Nat → Nat → Int32} : uf (uf (uf (uf (uf (kpR r E st mv P m) (23 * E + 3 + 5 * m) (P 0 m)) (23 * E + 4 + 5 * m) (P 1 m)) (23 * E + 5 + 5 * m) (P 2 m)) (23 * E + 6 + 5 * m) (P 3 m)) (23 * E + 7 + 5 * m) (P 4 m) = kpR r E st mv P (m + 1) := by
  funext j
  have hit : ∀ f, f < 5 → j = 23 * E + 3 + f + 5 * m → kpR r E st mv P (m + 1) j = P f m := by
    intro f hf e
    have e1 : (j - (23 * E + 3)) % 5 = f := by omega
    have e2 : (j - (23 * E + 3)) / 5 = m := by omega
    unfold kpR
    rw [if_neg (by omega), if_neg (by omega), if_pos (by omega), e1, e2]
  unfold uf
  by_cases h4 : j = 23 * E + 7 + 5 * m
  · rw [if_pos h4, hit 4 (by omega) (by omega)]
  · rw [if_neg h4]
    by_cases h3 : j = 23 * E + 6 + 5 * m
    · rw [if_pos h3, hit 3 (by omega) (by omega)]
    · rw [if_neg h3]
      by_cases h2 : j = 23 * E + 5 + 5 * m
      · rw [if_pos h2, hit 2 (by omega) (by omega)]
      · rw [if_neg h2]
        by_cases h1 : j = 23 * E + 4 + 5 * m
        · rw [if_pos h1, hit 1 (by omega) (by omega)]
        · rw [if_neg h1]
          by_cases h0 : j = 23 * E + 3 + 5 * m
          · rw [if_pos h0, hit 0 (by omega) (by omega)]
          · rw [if_neg h0]
            unfold kpR
            by_cases q1 : j = 23 * E
            · rw [if_pos q1, if_pos q1]
            · rw [if_neg q1, if_neg q1]
              by_cases q2 : j = 23 * E + 1
              · rw [if_pos q2, if_pos q2]
              · rw [if_neg q2, if_neg q2]
                by_cases q3 : 23 * E + 3 ≤ j ∧ j < 23 * E + 3 + 5 * m
                · rw [if_pos q3, if_pos (by omega)]
                · rw [if_neg q3, if_neg (by omega)]
def keE (I : Nat → Nat → Nat → Int32) : Nat := if nn (I 8 0 31) = 40 then 39 else nn (I 8 0 31)
def keR (I : Nat → Nat → Nat → Int32) : Nat → Int32 := if nn (I 8 0 31) = 40 then sft (I 100 36) 23 897 else I 100 36
def kcR (I : Nat → Nat → Nat → Int32) : Nat → Int32 := if nn (I 8 0 31) = 40 then sft (I 100 37) 1 39 else I 100 37
def kpI (I : Nat → Nat → Nat → Int32) (c : Nat) : Nat → Nat → Nat → Int32 := rf_u3 (kpS I (kpR (keR I) (keE I) (I 100 28 c) (I 100 29 c) (mP I c) 4) (uf (kcR I) (keE I) (Int32.ofNat c)) (Int32.ofNat (keE I + 1))) 8 0 32 (I 8 0 32 + 1)
theorem kx {E k m : Nat} : Int32.ofNat (23 * E) + Int32.ofNat k + 5 * Int32.ofNat m = Int32.ofNat (23 * E + k + 5 * m) := by
  have : (5 : Int32) * Int32.ofNat m = Int32.ofNat (5 * m) := nt_mul 5 m
  rw [this, nt_add, nt_add]
theorem kxi {E k m : Nat} (hE : E < 40) (hk : k < 8) (hm : m < 4) : 0 ≤ Int32.ofNat (23 * E) + Int32.ofNat k + 5 * Int32.ofNat m ∧ (Int32.ofNat (23 * E) + Int32.ofNat k + 5 * Int32.ofNat m).toNatClampNeg < 920 := by
  rw [kx]
  exact nt_ix (n := 920) (by omega) (by decide)
theorem kxn {E k m : Nat} (hE : E < 40) (hk : k < 8) (hm : m < 4) : (Int32.ofNat (23 * E) + Int32.ofNat k + 5 * Int32.ofNat m).toNatClampNeg = 23 * E + k + 5 * m := by
  rw [kx]
  exact nt_cl (by omega)
theorem d_keep {c : Nat} (hc : c < 8) (he : ok (I 8 0 31) 41) (hq : Q (.inl none) (sS L (kpI I c) J)) : rf_C l 55 [.inr (.inr (some (8, 0))), .inl (Int32.ofNat c)] (sS L I J) Q := by
  apply rf_C.ofW
  have i8 := nt_ix (n := 8) hc (by decide)
  have he2 : nn (I 8 0 31) < 41 := he.2
  obtain ⟨E, hE⟩ : ∃ E, E = keE I := ⟨_, rfl⟩
  have E40 : E < 40 := by rw [hE, keE]; split <;> omega
  obtain ⟨R, hR⟩ : ∃ R, R = keR I := ⟨_, rfl⟩
  obtain ⟨B, hB⟩ : ∃ B, B = uf (kcR I) E (Int32.ofNat c) := ⟨_, rfl⟩
  have g242 : rf_W l 55 242 [some (.inr (.inr (some (8, 0)))), some (.inl (Int32.ofNat c)), none, none] [] (sS L (kpS I (kpR R E (I 100 28 c) (I 100 29 c) (mP I c) 4) B (Int32.ofNat E)) J) 0 0 Q := by
    unfold kpI at hq
    rw [← hE, ← hR, ← hB] at hq
    have e1 := kpS_x (I := I) (a := kpR R E (I 100 28 c) (I 100 29 c) (mP I c) 4) (b := B) (x := Int32.ofNat E)
    refine rf_goW rf_mo_55 rf_T_55 30 [] ?_
    refine eqS (Q := Q) ?_ hq
    show sS L (rf_u3 (rf_u3 (kpS I (kpR R E (I 100 28 c) (I 100 29 c) (mP I c) 4) B (Int32.ofNat E)) 8 0 31 (kpS I (kpR R E (I 100 28 c) (I 100 29 c) (mP I c) 4) B (Int32.ofNat E) 8 0 31 + 1)) 8 0 32 (rf_u3 (kpS I (kpR R E (I 100 28 c) (I 100 29 c) (mP I c) 4) B (Int32.ofNat E)) 8 0 31 (kpS I (kpR R E (I 100 28 c) (I 100 29 c) (mP I c) 4) B (Int32.ofNat E) 8 0 31 + 1) 8 0 32 + 1)) J = _
    rw [kpS_ux, e1, kpS_8 (by decide), nt_succ]
  have key : ∀ m, m ≤ 4 → rf_W l 55 119 [some (.inr (.inr (some (8, 0)))), some (.inl (Int32.ofNat c)), some (.inl (Int32.ofNat (23 * E))), some (.inl (Int32.ofNat m))] [] (sS L (kpS I (kpR R E (I 100 28 c) (I 100 29 c) (mP I c) m) B (Int32.ofNat E)) J) 0 0 Q := by
    refine lp_dn ?_ ?_
    · exact rf_goW rf_mo_55 rf_T_55 30 [119, 242] (And.intro (fun _ => fgt g242 (by repeat (first | exact True.intro | refine And.intro rfl ?_))) (fun hd => absurd (Int32.le_refl _) hd))
    · intro m hm ih
      rw [← nt_succ m] at ih
      have i32 := ix32 hc hm
      have n32 := nn4 hc hm
      have rd : ∀ (a : Nat → Int32) f, f < 5 → kpS I a B (Int32.ofNat E) 100 (30 + f) (4 * c + m) = mP I c f m := fun a f hf => by
        rw [kpS_o (by omega) (by omega)]
        rfl
      rw [← kpR_s] at ih
      obtain ⟨A0, hA0⟩ : ∃ A, A = kpR R E (I 100 28 c) (I 100 29 c) (mP I c) m := ⟨_, rfl⟩
      rw [← hA0] at ih ⊢
      have g213 : ∀ A, kpR R E (I 100 28 c) (I 100 29 c) (mP I c) (m + 1) = uf A (23 * E + 7 + 5 * m) (mP I c 4 m) → rf_W l 55 213 [some (.inr (.inr (some (8, 0)))), some (.inl (Int32.ofNat c)), some (.inl (Int32.ofNat (23 * E))), some (.inl (Int32.ofNat m))] [] (sS L (kpS I A B (Int32.ofNat E)) J) 0 0 Q := by
        intro A hA
        refine rf_goW rf_mo_55 rf_T_55 30 [119] (And.intro i32 (And.intro (kxi (k := 7) E40 (by decide) hm) ?_))
        rw [show (Int32.ofNat (23 * E) + 7 + 5 * Int32.ofNat m).toNatClampNeg = 23 * E + 7 + 5 * m from kxn (k := 7) E40 (by decide) hm, n32]
        have es : rf_u3 (kpS I A B (Int32.ofNat E)) 100 36 (23 * E + 7 + 5 * m) (kpS I A B (Int32.ofNat E) 100 34 (4 * c + m)) = kpS I (kpR R E (I 100 28 c) (I 100 29 c) (mP I c) (m + 1)) B (Int32.ofNat E) := by rw [rd A 4 (by decide), kpS_ua, hA]
        rw [hA0, kpR_s, ← es] at ih
        exact ih
      have g190 : ∀ A, (∀ A', A' = uf A (23 * E + 6 + 5 * m) (mP I c 3 m) → kpR R E (I 100 28 c) (I 100 29 c) (mP I c) (m + 1) = uf A' (23 * E + 7 + 5 * m) (mP I c 4 m)) → rf_W l 55 190 [some (.inr (.inr (some (8, 0)))), some (.inl (Int32.ofNat c)), some (.inl (Int32.ofNat (23 * E))), some (.inl (Int32.ofNat m))] [] (sS L (kpS I A B (Int32.ofNat E)) J) 0 0 Q := by
        intro A hA
        refine rf_goW rf_mo_55 rf_T_55 30 [213] (And.intro i32 (And.intro (kxi (k := 6) E40 (by decide) hm) ?_))
        rw [show (Int32.ofNat (23 * E) + 6 + 5 * Int32.ofNat m).toNatClampNeg = 23 * E + 6 + 5 * m from kxn (k := 6) E40 (by decide) hm, n32]
        have es : rf_u3 (kpS I A B (Int32.ofNat E)) 100 36 (23 * E + 6 + 5 * m) (kpS I A B (Int32.ofNat E) 100 33 (4 * c + m)) = kpS I (uf A (23 * E + 6 + 5 * m) (mP I c 3 m)) B (Int32.ofNat E) := by rw [rd A 3 (by decide), kpS_ua]
        have k := g213 _ (hA _ rfl)
        rw [← es] at k
        exact k
      have g168 : ∀ A, (∀ A', A' = uf (uf A (23 * E + 5 + 5 * m) (mP I c 2 m)) (23 * E + 6 + 5 * m) (mP I c 3 m) → kpR R E (I 100 28 c) (I 100 29 c) (mP I c) (m + 1) = uf A' (23 * E + 7 + 5 * m) (mP I c 4 m)) → rf_W l 55 168 [some (.inr (.inr (some (8, 0)))), some (.inl (Int32.ofNat c)), some (.inl (Int32.ofNat (23 * E))), some (.inl (Int32.ofNat m))] [] (sS L (kpS I A B (Int32.ofNat E)) J) 0 0 Q := by
        intro A hA
        refine rf_goW rf_mo_55 rf_T_55 30 [190] (And.intro i32 (And.intro (kxi (k := 5) E40 (by decide) hm) ?_))
        rw [show (Int32.ofNat (23 * E) + 5 + 5 * Int32.ofNat m).toNatClampNeg = 23 * E + 5 + 5 * m from kxn (k := 5) E40 (by decide) hm, n32]
        have es : rf_u3 (kpS I A B (Int32.ofNat E)) 100 36 (23 * E + 5 + 5 * m) (kpS I A B (Int32.ofNat E) 100 32 (4 * c + m)) = kpS I (uf A (23 * E + 5 + 5 * m) (mP I c 2 m)) B (Int32.ofNat E) := by rw [rd A 2 (by decide), kpS_ua]
        have k := g190 _ hA
        rw [← es] at k
        exact k
      have g146 : ∀ A, (∀ A', A' = uf (uf (uf A (23 * E + 4 + 5 * m) (mP I c 1 m)) (23 * E + 5 + 5 * m) (mP I c 2 m)) (23 * E + 6 + 5 * m) (mP I c 3 m) → kpR R E (I 100 28 c) (I 100 29 c) (mP I c) (m + 1) = uf A' (23 * E + 7 + 5 * m) (mP I c 4 m)) → rf_W l 55 146 [some (.inr (.inr (some (8, 0)))), some (.inl (Int32.ofNat c)), some (.inl (Int32.ofNat (23 * E))), some (.inl (Int32.ofNat m))] [] (sS L (kpS I A B (Int32.ofNat E)) J) 0 0 Q := by
        intro A hA
        refine rf_goW rf_mo_55 rf_T_55 30 [168] (And.intro i32 (And.intro (kxi (k := 4) E40 (by decide) hm) ?_))
        rw [show (Int32.ofNat (23 * E) + 4 + 5 * Int32.ofNat m).toNatClampNeg = 23 * E + 4 + 5 * m from kxn (k := 4) E40 (by decide) hm, n32]
        have es : rf_u3 (kpS I A B (Int32.ofNat E)) 100 36 (23 * E + 4 + 5 * m) (kpS I A B (Int32.ofNat E) 100 31 (4 * c + m)) = kpS I (uf A (23 * E + 4 + 5 * m) (mP I c 1 m)) B (Int32.ofNat E) := by rw [rd A 1 (by decide), kpS_ua]
        have k := g168 _ hA
        rw [← es] at k
        exact k
      refine rf_goW rf_mo_55 rf_T_55 30 [146] (And.intro (fun hd => absurd ((nt_le (i := 4) (by omega) (by omega)).mp hd) (by omega)) (fun _ => And.intro i32 (And.intro (kxi (k := 3) E40 (by decide) hm) ?_)))
      rw [show (Int32.ofNat (23 * E) + 3 + 5 * Int32.ofNat m).toNatClampNeg = 23 * E + 3 + 5 * m from kxn (k := 3) E40 (by decide) hm, n32]
      have es : rf_u3 (kpS I A0 B (Int32.ofNat E)) 100 36 (23 * E + 3 + 5 * m) (kpS I A0 B (Int32.ofNat E) 100 30 (4 * c + m)) = kpS I (uf A0 (23 * E + 3 + 5 * m) (mP I c 0 m)) B (Int32.ofNat E) := by rw [rd A0 0 (by decide), kpS_ua]
      have k := g146 (uf A0 (23 * E + 3 + 5 * m) (mP I c 0 m)) (fun A' hA' => by rw [hA', hA0, kpR_s])
      rw [← es] at k
      exact k
  have g81 : ∀ x, x = Int32.ofNat (23 * E) → rf_W l 55 81 [some (.inr (.inr (some (8, 0)))), some (.inl (Int32.ofNat c)), some (.inl x), none] [] (sS L (kpS I R (kcR I) (Int32.ofNat E)) J) 0 0 Q := by
    rintro _ rfl
    have k0 := key 0 (by omega)
    rw [← kpR_0] at k0
    have i0 : 0 ≤ Int32.ofNat (23 * E) ∧ (Int32.ofNat (23 * E)).toNatClampNeg < 920 := nt_ix (n := 920) (by omega) (by decide)
    have i1 : 0 ≤ Int32.ofNat (23 * E) + 1 ∧ (Int32.ofNat (23 * E) + 1).toNatClampNeg < 920 := by
      rw [nt_succ]
      exact nt_ix (n := 920) (by omega) (by decide)
    have g103 : rf_W l 55 103 [some (.inr (.inr (some (8, 0)))), some (.inl (Int32.ofNat c)), some (.inl (Int32.ofNat (23 * E))), none] [] (sS L (kpS I (uf R (23 * E) (I 100 28 c)) B (Int32.ofNat E)) J) 0 0 Q := by
      refine rf_goW rf_mo_55 rf_T_55 30 [119] (And.intro i8 (And.intro i1 ?_))
      rw [nt_succ, nt_cl (by omega), nt_cl (by omega)]
      have es : rf_u3 (kpS I (uf R (23 * E) (I 100 28 c)) B (Int32.ofNat E)) 100 36 (23 * E + 1) (kpS I (uf R (23 * E) (I 100 28 c)) B (Int32.ofNat E) 100 29 c) = kpS I (uf (uf R (23 * E) (I 100 28 c)) (23 * E + 1) (I 100 29 c)) B (Int32.ofNat E) := by rw [kpS_o (by decide) (by decide), kpS_ua]
      rw [← es] at k0
      exact k0
    have g91 : rf_W l 55 91 [some (.inr (.inr (some (8, 0)))), some (.inl (Int32.ofNat c)), some (.inl (Int32.ofNat (23 * E))), none] [] (sS L (kpS I R B (Int32.ofNat E)) J) 0 0 Q := by
      refine rf_goW rf_mo_55 rf_T_55 30 [103] (And.intro i8 (And.intro i0 ?_))
      rw [nt_cl (by omega), nt_cl (by omega)]
      have es : rf_u3 (kpS I R B (Int32.ofNat E)) 100 36 (23 * E) (kpS I R B (Int32.ofNat E) 100 28 c) = kpS I (uf R (23 * E) (I 100 28 c)) B (Int32.ofNat E) := by rw [kpS_o (by decide) (by decide), kpS_ua]
      rw [← es] at g103
      exact g103
    have ex : kpS I R (kcR I) (Int32.ofNat E) 8 0 31 = Int32.ofNat E := kpS_x
    have hk : ∀ x, x = Int32.ofNat E → (0 ≤ x ∧ x.toNatClampNeg < 40) ∧ rf_W l 55 91 [some (.inr (.inr (some (8, 0)))), some (.inl (Int32.ofNat c)), some (.inl (Int32.ofNat (23 * E))), none] [] (sS L (rf_u3 (kpS I R (kcR I) (Int32.ofNat E)) 100 37 x.toNatClampNeg (Int32.ofNat c)) J) 0 0 Q := by
      rintro _ rfl
      refine ⟨nt_ix (n := 40) E40 (by decide), ?_⟩
      rw [nt_cl (by omega), kpS_ub, ← hB]
      exact g91
    obtain ⟨k1, k2⟩ := hk _ ex
    exact rf_goW rf_mo_55 rf_T_55 30 [91] (And.intro k1 k2)
  have g73 : rf_W l 55 73 [some (.inr (.inr (some (8, 0)))), some (.inl (Int32.ofNat c)), none, none] [] (sS L (kpS I R (kcR I) (Int32.ofNat E)) J) 0 0 Q := by
    refine rf_goW rf_mo_55 rf_T_55 30 [81] (g81 _ ?_)
    show 23 * kpS I R (kcR I) (Int32.ofNat E) 8 0 31 = _
    rw [kpS_x]
    exact nt_mul 23 E
  have e40 : I 8 0 31 = 40 ↔ nn (I 8 0 31) = 40 := by
    constructor
    · intro q; rw [q]; rfl
    · intro q
      rw [← nn_of he.1, q]
      rfl
  refine rf_goW rf_mo_55 rf_T_55 30 [73, 11] (And.intro (fun (e : ¬ I 8 0 31 = 40) => ?_) (fun (e : I 8 0 31 = 40) => ?_))
  · have e' : ¬ nn (I 8 0 31) = 40 := fun q => e (e40.mpr q)
    rw [hR, hE, keR, kcR, keE, if_neg e', if_neg e', if_neg e', nn_of he.1, kpS_id] at g73
    exact g73
  · have e' : nn (I 8 0 31) = 40 := e40.mp e
    rw [hR, hE, keR, kcR, keE, if_pos e', if_pos e', if_pos e'] at g73
    have g67 : rf_W l 55 67 [some (.inr (.inr (some (8, 0)))), some (.inl (Int32.ofNat c)), none, none] [] (sS L (kpS I (sft (I 100 36) 23 897) (sft (I 100 37) 1 39) (I 8 0 31)) J) 0 0 Q := by
      rw [← kpS_ux (x := I 8 0 31)] at g73
      exact rf_goW rf_mo_55 rf_T_55 30 [73] g73
    have key2 : ∀ i, i ≤ 39 → rf_W l 55 41 [some (.inr (.inr (some (8, 0)))), some (.inl (Int32.ofNat c)), some (.inl (Int32.ofNat i)), none] [] (sS L (kpS I (sft (I 100 36) 23 897) (sft (I 100 37) 1 i) (I 8 0 31)) J) 0 0 Q := by
      refine lp_dn ?_ ?_
      · exact rf_goW rf_mo_55 rf_T_55 30 [41, 67] (And.intro (fun _ => fgt g67 (by repeat (first | exact True.intro | refine And.intro rfl ?_))) (fun hd => absurd (Int32.le_refl _) hd))
      · intro i hi ih
        rw [← nt_succ i] at ih
        have j1 : 0 ≤ Int32.ofNat i + 1 ∧ (Int32.ofNat i + 1).toNatClampNeg < 40 := by
          rw [nt_succ]
          exact nt_ix (n := 40) (by omega) (by decide)
        refine rf_goW rf_mo_55 rf_T_55 30 [41] (And.intro (fun hd => absurd ((nt_le (i := 39) (by omega) (by omega)).mp hd) (by omega)) (fun _ => And.intro j1 (And.intro (nt_ix (n := 40) (by omega) (by decide)) ?_)))
        have jn : (Int32.ofNat i + 1).toNatClampNeg = i + 1 := by rw [nt_succ]; exact nt_cl (by omega)
        have es : rf_u3 (kpS I (sft (I 100 36) 23 897) (sft (I 100 37) 1 i) (I 8 0 31)) 100 37 i (kpS I (sft (I 100 36) 23 897) (sft (I 100 37) 1 i) (I 8 0 31) 100 37 (i + 1)) = kpS I (sft (I 100 36) 23 897) (sft (I 100 37) 1 (i + 1)) (I 8 0 31) := by rw [kpS_b, kpS_ub, sft_s]
        rw [jn, nt_cl (by omega)]
        rw [← es] at ih
        exact ih
    have key1 : ∀ i, i ≤ 897 → rf_W l 55 11 [some (.inr (.inr (some (8, 0)))), some (.inl (Int32.ofNat c)), some (.inl (Int32.ofNat i)), none] [] (sS L (kpS I (sft (I 100 36) 23 i) (I 100 37) (I 8 0 31)) J) 0 0 Q := by
      refine lp_dn ?_ ?_
      · have k0 := key2 0 (by omega)
        rw [sft_0] at k0
        exact rf_goW rf_mo_55 rf_T_55 30 [11, 41] (And.intro (fun _ => k0) (fun hd => absurd (Int32.le_refl _) hd))
      · intro i hi ih
        rw [← nt_succ i] at ih
        have e23 : Int32.ofNat i + 23 = Int32.ofNat (i + 23) := nt_add i 23
        have j1 : 0 ≤ Int32.ofNat i + 23 ∧ (Int32.ofNat i + 23).toNatClampNeg < 920 := by
          rw [e23]
          exact nt_ix (n := 920) (by omega) (by decide)
        refine rf_goW rf_mo_55 rf_T_55 30 [11] (And.intro (fun hd => absurd ((nt_le (i := 897) (by omega) (by omega)).mp hd) (by omega)) (fun _ => And.intro j1 (And.intro (nt_ix (n := 920) (by omega) (by decide)) ?_)))
        have jn : (Int32.ofNat i + 23).toNatClampNeg = i + 23 := by rw [e23]; exact nt_cl (by omega)
        have es : rf_u3 (kpS I (sft (I 100 36) 23 i) (I 100 37) (I 8 0 31)) 100 36 i (kpS I (sft (I 100 36) 23 i) (I 100 37) (I 8 0 31) 100 36 (i + 23)) = kpS I (sft (I 100 36) 23 (i + 1)) (I 100 37) (I 8 0 31) := by rw [kpS_a, kpS_ua, sft_s]
        rw [jn, nt_cl (by omega)]
        rw [← es] at ih
        exact ih
    have k0 := key1 0 (by omega)
    rw [sft_0, kpS_id] at k0
    exact k0
end MY
