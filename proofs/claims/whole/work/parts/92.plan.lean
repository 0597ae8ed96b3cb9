/-! plans, the journal, edits -/
section LP
variable {l : Launch} {Q : rf_O → rf_S → Prop} {L : Nat} {I : Nat → Nat → Nat → Int32} {J : Nat → Nat → Nat → Int64} {σ : rf_S}
theorem ck_ok {i : Int32} {n : Nat} (hn : n < 2147483648) : (0 ≤ i ∧ i < Int32.ofNat n) ↔ ok i n := by
  constructor
  · intro h
    obtain ⟨k, hk, e⟩ := nt_of h.1 h.2 hn
    rw [e]
    exact ok_nat hk hn
  · intro h
    refine ⟨h.1, ?_⟩
    have : nn i < n := h.2
    rw [← nn_of h.1]
    exact (nt_lt (by omega) hn).mpr this
theorem c_checkIx {i : Int32} {n : Nat} (hn : n < 2147483648) (hy : ok i n → Q (.inl none) σ) (hx : ¬ ok i n → Q (.inr 0) σ) : rf_C l 9 [.inl i, .inl (Int32.ofNat n)] σ Q :=
  c_checkIndex (fun h1 h2 => hy ((ck_ok hn).mp ⟨h1, h2⟩)) (fun h => hx fun q => h ((ck_ok hn).mpr q))
/-- the plan of the cue d at the cue c: station, count, the first n moves -/
def tkp (I : Nat → Nat → Nat → Int32) (c d n : Nat) : Nat → Nat → Nat → Int32 := fun b i f => if b = 1 ∧ i = c ∧ (f = 1 ∨ f = 2) then I 1 d f else if b = 5 ∧ 4 * c ≤ i ∧ i < 4 * c + n ∧ f < 5 then I 5 (4 * d + (i - 4 * c)) f else I b i f
theorem tkp_0 {c d : Nat} (h : ¬ c = d) : rf_u3 (rf_u3 I 1 c 2 (I 1 d 2)) 1 c 1 (rf_u3 I 1 c 2 (I 1 d 2) 1 d 1) = tkp I c d 0 := by
  have e : rf_u3 I 1 c 2 (I 1 d 2) 1 d 1 = I 1 d 1 := by simp [rf_u3]
  rw [e]
  funext b i f
  by_cases h1 : b = 1 ∧ i = c
  · obtain ⟨rfl, rfl⟩ := h1
    by_cases h2 : f = 1
    · subst h2; simp [rf_u3, tkp]
    · by_cases h3 : f = 2
      · subst h3; simp [rf_u3, tkp]
      · simp [rf_u3, tkp, h2, h3]
  · have h2 : ¬ (b = 1 ∧ i = c ∧ f = 1) := fun q => h1 ⟨q.1, q.2.1⟩
    have h3 : ¬ (b = 1 ∧ i = c ∧ f = 2) := fun q => h1 ⟨q.1, q.2.1⟩
    have h4 : ¬ (b = 1 ∧ i = c ∧ (f = 1 ∨ f = 2)) := fun q => h1 ⟨q.1, q.2.1⟩
    have h5 : ¬ (b = 5 ∧ 4 * c ≤ i ∧ i < 4 * c + 0 ∧ f < 5) := fun q => absurd q.2 (by omega)
    rw [rf_u3, if_neg h2, rf_u3, if_neg h3, tkp, if_neg h4, if_neg h5]
theorem tkp_s {c d n : Nat} (h : ¬ c = d) (hn : n < 4) : ro (tkp I c d n) 5 (4 * c + n) (t5 (tkp I c d n 5 (4 * c + n)) (tkp I c d n 5 (4 * d + n))) = tkp I c d (n + 1) := by
  funext b i f
  by_cases h1 : b = 5 ∧ i = 4 * c + n
  · obtain ⟨rfl, rfl⟩ := h1
    have h2 : ¬ (4 * d + n < 4 * c + n ∧ 4 * c ≤ 4 * d + n) := by omega
    have h3 : 4 * c + n - 4 * c = n := by omega
    by_cases h4 : f < 5
    · have h5 : ¬ (4 * c ≤ 4 * d + n ∧ 4 * d + n < 4 * c + n) := by omega
      have h6 : 4 * c + n < 4 * c + (n + 1) := by omega
      have h7 : ¬ (5 = 5 ∧ 4 * c ≤ 4 * d + n ∧ 4 * d + n < 4 * c + n ∧ f < 5) := fun q => h5 ⟨q.2.1, q.2.2.1⟩
      have h8 : ¬ ((5 : Nat) = 1 ∧ 4 * d + n = c ∧ (f = 1 ∨ f = 2)) := fun q => absurd q.1 (by decide)
      have h9 : ¬ ((5 : Nat) = 1 ∧ 4 * c + n = c ∧ (f = 1 ∨ f = 2)) := fun q => absurd q.1 (by decide)
      rw [ro_at, t5, if_pos h4, tkp, if_neg h8, if_neg h7, tkp, if_neg h9, if_pos ⟨rfl, by omega, h6, h4⟩, h3]
    · have h9 : ¬ ((5 : Nat) = 1 ∧ 4 * c + n = c ∧ (f = 1 ∨ f = 2)) := fun q => absurd q.1 (by decide)
      have h7 : ∀ m, ¬ (5 = 5 ∧ 4 * c ≤ 4 * c + n ∧ 4 * c + n < 4 * c + m ∧ f < 5) := fun m q => h4 q.2.2.2
      rw [ro_at, t5, if_neg h4, tkp, if_neg h9, if_neg (h7 _), tkp, if_neg h9, if_neg (h7 _)]
  · have e : ro (tkp I c d n) 5 (4 * c + n) (t5 (tkp I c d n 5 (4 * c + n)) (tkp I c d n 5 (4 * d + n))) b i f = tkp I c d n b i f := by rw [ro_ne h1]
    rw [e, tkp, tkp]
    by_cases h2 : b = 1 ∧ i = c ∧ (f = 1 ∨ f = 2)
    · rw [if_pos h2, if_pos h2]
    · rw [if_neg h2, if_neg h2]
      by_cases h3 : b = 5 ∧ 4 * c ≤ i ∧ i < 4 * c + n ∧ f < 5
      · rw [if_pos h3, if_pos ⟨h3.1, h3.2.1, by omega, h3.2.2.2⟩]
      · rw [if_neg h3, if_neg fun q => h3 ⟨q.1, q.2.1, by have : ¬ i = 4 * c + n := fun e => h1 ⟨q.1, e⟩
                                                          omega, q.2.2.2⟩]
theorem c_takePlan {c d : Nat} (h : ¬ c = d) (hn : ok (I 1 d 1) 5) (hq : Q (.inl none) (sS L (tkp I c d (nn (I 1 d 1))) J)) : rf_C l 50 [.inr (.inr (some (1, c))), .inr (.inr (some (1, d)))] (sS L I J) Q := by
  apply rf_C.ofW
  have hb : nn (I 1 d 1) < 5 := hn.2
  have key : ∀ m, m ≤ nn (I 1 d 1) → rf_W l 50 18 [some (.inr (.inr (some (1, c)))), some (.inr (.inr (some (1, d)))), some (.inl (Int32.ofNat m))] [] (sS L (tkp I c d m) J) 0 0 Q := by
    have e1 : ∀ m, tkp I c d m 1 c 1 = I 1 d 1 := fun m => by simp [tkp]
    refine lp_dn ?_ ?_
    · refine rf_goW rf_mo_50 rf_T_50 60 [18] (And.intro (fun _ => hq) (fun hc => absurd ?_ hc))
      show tkp I c d (nn (I 1 d 1)) 1 c 1 ≤ _
      rw [e1]
      exact (nn_le hn.1 (by omega)).mpr (Nat.le_refl _)
    · intro m hm ih
      rw [← nt_succ m] at ih
      refine rf_goW rf_mo_50 rf_T_50 60 [18] (And.intro (fun hc => absurd (show tkp I c d m 1 c 1 ≤ Int32.ofNat m from hc) ?_) (fun _ => And.intro (nt_ix (n := 4) (by omega) (by decide)) (And.intro (nt_ix (n := 4) (by omega) (by decide)) ?_)))
      · rw [e1]
        exact fun hc => absurd ((nn_le hn.1 (by omega)).mp hc) (by omega)
      rw [nt_cl (by omega)]
      refine And.intro ⟨by decide, by decide⟩ (c_moveTake ?_)
      rw [← tkp_s h (by omega)] at ih
      exact ih
  have k0 := key 0 (by omega)
  rw [← tkp_0 h] at k0
  exact rf_goW rf_mo_50 rf_T_50 20 [18] k0
theorem jr_next : ∀ k, k < 40 → (Int32.ofNat k + 1) - (Int32.ofNat k + 1) / 40 * 40 = Int32.ofNat ((k + 1) % 40) := by decide
theorem jr_prev : ∀ k, k < 40 → (Int32.ofNat k + 40 - 1) - (Int32.ofNat k + 40 - 1) / 40 * 40 = Int32.ofNat ((k + 39) % 40) := by decide
theorem jr_kept : ∀ k, k < 41 → (if (40 : Int32) < Int32.ofNat k + 1 then (40 : Int32) else Int32.ofNat k + 1) = Int32.ofNat (min (k + 1) 40) := by decide
def jrL (I : Nat → Nat → Nat → Int32) : Nat := (nn (I 3 0 2) + 1) % 40
def jrI (I : Nat → Nat → Nat → Int32) (x : Int32) : Nat → Nat → Nat → Int32 := rf_u3 (rf_u3 (rf_u3 I 3 0 2 (Int32.ofNat (jrL I))) 3 0 3 (Int32.ofNat (min (nn (I 3 0 3) + 1) 40))) 100 6 (jrL I) x
theorem c_remember {c : Nat} {x : Int32} (hl : ok (I 3 0 2) 40) (hk : ok (I 3 0 3) 41) (hn : ok (I 1 (40 + c) 1) 5) (hq : Q (.inl none) (sS L (tkp (jrI I x) (jrL I) (40 + c) (nn (I 1 (40 + c) 1))) J)) : rf_C l 51 [.inr (.inr (some (3, 0))), .inl x, .inr (.inr (some (1, 40 + c)))] (sS L I J) Q := by
  apply rf_C.ofW
  have hL : jrL I < 40 := Nat.mod_lt _ (by decide)
  have e1 : I 3 0 2 + 1 - (I 3 0 2 + 1) / 40 * 40 = Int32.ofNat (jrL I) := by
    have := jr_next (nn (I 3 0 2)) hl.2
    rw [nn_of hl.1] at this
    exact this
  have e2 : (if (40 : Int32) < I 3 0 3 + 1 then (40 : Int32) else I 3 0 3 + 1) = Int32.ofNat (min (nn (I 3 0 3) + 1) 40) := by
    have := jr_kept (nn (I 3 0 3)) hk.2
    rw [nn_of hk.1] at this
    exact this
  have e3 : (rf_u3 I 3 0 2 (Int32.ofNat (jrL I))) 3 0 3 = I 3 0 3 := u3_f (by decide) 0
  have e4 : (rf_u3 (rf_u3 I 3 0 2 (Int32.ofNat (jrL I))) 3 0 3 (Int32.ofNat (min (nn (I 3 0 3) + 1) 40))) 3 0 2 = Int32.ofNat (jrL I) := by simp [rf_u3]
  have e5 : (jrI I x) 3 0 2 = Int32.ofNat (jrL I) := by rw [jrI, u3_b (by decide)]; exact e4
  have e6 : (jrI I x) 1 = I 1 := by rw [jrI, u3_b (by decide), u3_b (by decide), u3_b (by decide)]
  have g38 : rf_W l 51 38 [some (.inr (.inr (some (3, 0)))), some (.inl x), some (.inr (.inr (some (1, 40 + c))))] [] (sS L (jrI I x) J) 0 0 Q := by
    refine rf_goW rf_mo_51 rf_T_51 60 [] ?_
    show (0 ≤ (jrI I x) 3 0 2 ∧ nn ((jrI I x) 3 0 2) < 40) ∧ _
    rw [e5]
    refine And.intro (nt_ix (n := 40) hL (by decide)) ?_
    have h : ∀ Q' : rf_O → rf_S → Prop, Q' (.inl none) (sS L (tkp (jrI I x) (jrL I) (40 + c) (nn (I 1 (40 + c) 1))) J) → rf_C l 50 [.inr (.inr (some (1, nn ((jrI I x) 3 0 2)))), .inr (.inr (some (1, 40 + c)))] (sS L (jrI I x) J) Q' := by
      intro Q' hq'
      rw [e5, nn_nat (by omega)]
      exact c_takePlan (I := jrI I x) (by omega) (by rw [e6]; exact hn) (by rw [e6]; exact hq')
    exact And.intro ⟨by decide, by decide⟩ (h _ hq)
  have g28 : rf_W l 51 28 [some (.inr (.inr (some (3, 0)))), some (.inl x), some (.inr (.inr (some (1, 40 + c))))] [] (sS L (rf_u3 (rf_u3 I 3 0 2 (Int32.ofNat (jrL I))) 3 0 3 (Int32.ofNat (min (nn (I 3 0 3) + 1) 40))) J) 0 0 Q := by
    have hk : ∀ k, k = jrL I → rf_W l 51 38 [some (.inr (.inr (some (3, 0)))), some (.inl x), some (.inr (.inr (some (1, 40 + c))))] [] (sS L (rf_u3 (rf_u3 (rf_u3 I 3 0 2 (Int32.ofNat (jrL I))) 3 0 3 (Int32.ofNat (min (nn (I 3 0 3) + 1) 40))) 100 6 k x) J) 0 0 Q := by
      rintro _ rfl
      exact g38
    refine rf_goW rf_mo_51 rf_T_51 60 [38] (And.intro (show ok ((rf_u3 (rf_u3 I 3 0 2 (Int32.ofNat (jrL I))) 3 0 3 (Int32.ofNat (min (nn (I 3 0 3) + 1) 40))) 3 0 2) 40 by rw [e4]; exact nt_ix (n := 40) hL (by decide)) (hk _ ?_))
    show nn ((rf_u3 (rf_u3 I 3 0 2 (Int32.ofNat (jrL I))) 3 0 3 (Int32.ofNat (min (nn (I 3 0 3) + 1) 40))) 3 0 2) = _
    rw [e4, nn_nat (by omega)]
  have g13 : rf_W l 51 13 [some (.inr (.inr (some (3, 0)))), some (.inl x), some (.inr (.inr (some (1, 40 + c))))] [] (sS L (rf_u3 I 3 0 2 (Int32.ofNat (jrL I))) J) 0 0 Q := by
    refine rf_goW rf_mo_51 rf_T_51 60 [28] (And.intro ⟨by decide, by decide⟩ (c_min ?_))
    have hk : ∀ k, k = Int32.ofNat (min (nn (I 3 0 3) + 1) 40) → rf_W l 51 28 [some (.inr (.inr (some (3, 0)))), some (.inl x), some (.inr (.inr (some (1, 40 + c))))] [] (sS L (rf_u3 (rf_u3 I 3 0 2 (Int32.ofNat (jrL I))) 3 0 3 k) J) 0 0 Q := by
      rintro _ rfl
      exact g28
    refine hk _ ?_
    show (if (40 : Int32) < (rf_u3 I 3 0 2 (Int32.ofNat (jrL I))) 3 0 3 + 1 then (40 : Int32) else (rf_u3 I 3 0 2 (Int32.ofNat (jrL I))) 3 0 3 + 1) = _
    rw [e3, e2]
  have hk : ∀ k, k = Int32.ofNat (jrL I) → rf_W l 51 13 [some (.inr (.inr (some (3, 0)))), some (.inl x), some (.inr (.inr (some (1, 40 + c))))] [] (sS L (rf_u3 I 3 0 2 k) J) 0 0 Q := by
    rintro _ rfl
    exact g13
  exact rf_goW rf_mo_51 rf_T_51 20 [13] (And.intro (by decide) (hk _ e1))
/-- an edit of the cue c is remembered -/
def remI (I : Nat → Nat → Nat → Int32) (c : Nat) : Nat → Nat → Nat → Int32 := rf_u3 (tkp (jrI I (Int32.ofNat c)) (jrL I) (40 + c) (nn (I 1 (40 + c) 1))) 7 0 11 (I 7 0 11 + 1)
theorem c_rememberEdit {c : Nat} (hc : c < 8) (hl : ok (I 3 0 2) 40) (hk : ok (I 3 0 3) 41) (hn : ok (I 1 (40 + c) 1) 5) (hq : Q (.inl none) (sS L (remI I c) J)) : rf_C l 52 [.inr (.inr (some (7, 0))), .inl (Int32.ofNat c)] (sS L I J) Q := by
  apply rf_C.ofW
  refine rf_goW rf_mo_52 rf_T_52 40 [] (And.intro (nt_ix (n := 8) hc (by decide)) ?_)
  rw [nt_cl (by omega)]
  refine And.intro ⟨by decide, by decide⟩ (c_remember hl hk hn ?_)
  have e : (tkp (jrI I (Int32.ofNat c)) (jrL I) (40 + c) (nn (I 1 (40 + c) 1))) 7 0 11 = I 7 0 11 := by simp [tkp, jrI, rf_u3]
  rw [remI, ← e] at hq
  exact hq
theorem c_append {c : Nat} {p g t : Int32} (hn : ok (I 1 c 1) 4) (hq : Q (.inl (some (.inl (I 1 c 1 + 1 - 1)))) (sS L (rf_u3 (ro I 5 (4 * c + nn (I 1 c 1)) (uf (uf (uf (uf (uf (I 5 (4 * c + nn (I 1 c 1))) 0 p) 1 g) 2 t) 3 (-1)) 4 0)) 1 c 1 (I 1 c 1 + 1)) J)) : rf_C l 57 [.inr (.inr (some (1, c))), .inl p, .inl g, .inl t] (sS L I J) Q := by
  apply rf_C.ofW
  refine rf_goW rf_mo_57 rf_T_57 60 [] (And.intro hn ?_)
  have e : rf_u3 (rf_u3 (rf_u3 (rf_u3 (rf_u3 I 5 (4 * c + nn (I 1 c 1)) 0 p) 5 (4 * c + nn (I 1 c 1)) 1 g) 5 (4 * c + nn (I 1 c 1)) 2 t) 5 (4 * c + nn (I 1 c 1)) 3 (-1)) 5 (4 * c + nn (I 1 c 1)) 4 0 = ro I 5 (4 * c + nn (I 1 c 1)) (uf (uf (uf (uf (uf (I 5 (4 * c + nn (I 1 c 1))) 0 p) 1 g) 2 t) 3 (-1)) 4 0) := by
    simp only [u3_ro, ro_self, ro_ro]
  have e1 : (ro I 5 (4 * c + nn (I 1 c 1)) (uf (uf (uf (uf (uf (I 5 (4 * c + nn (I 1 c 1))) 0 p) 1 g) 2 t) 3 (-1)) 4 0)) 1 c 1 = I 1 c 1 := by rw [ro_b (by decide)]
  have hk : ∀ I2 : Nat → Nat → Nat → Int32, I2 = ro I 5 (4 * c + nn (I 1 c 1)) (uf (uf (uf (uf (uf (I 5 (4 * c + nn (I 1 c 1))) 0 p) 1 g) 2 t) 3 (-1)) 4 0) → Q (.inl (some (.inl (rf_u3 I2 1 c 1 (I2 1 c 1 + 1) 1 c 1 - 1)))) (sS L (rf_u3 I2 1 c 1 (I2 1 c 1 + 1)) J) := by
    rintro _ rfl
    rw [e1, show rf_u3 (ro I 5 (4 * c + nn (I 1 c 1)) (uf (uf (uf (uf (uf (I 5 (4 * c + nn (I 1 c 1))) 0 p) 1 g) 2 t) 3 (-1)) 4 0)) 1 c 1 (I 1 c 1 + 1) 1 c 1 = I 1 c 1 + 1 by simp [rf_u3]]
    exact hq
  exact hk _ e
theorem c_latestCue (hl : ok (I 3 0 2) 40) (hq : Q (.inl (some (.inl (I 100 6 (nn (I 3 0 2)))))) (sS L I J)) : rf_C l 67 [.inr (.inr (some (3, 0)))] (sS L I J) Q := by
  apply rf_C.ofW
  exact rf_goW rf_mo_67 rf_T_67 20 [] (And.intro hl hq)
theorem c_latestPlan (hl : ok (I 3 0 2) 40) (hq : Q (.inl (some (.inr (.inr (some (1, nn (I 3 0 2))))))) (sS L I J)) : rf_C l 68 [.inr (.inr (some (3, 0)))] (sS L I J) Q := by
  apply rf_C.ofW
  exact rf_goW rf_mo_68 rf_T_68 20 [] (And.intro hl hq)
def drpI (I : Nat → Nat → Nat → Int32) : Nat → Nat → Nat → Int32 := rf_u3 (rf_u3 I 3 0 2 (Int32.ofNat ((nn (I 3 0 2) + 39) % 40))) 3 0 3 (I 3 0 3 - 1)
theorem c_dropLatest (hl : ok (I 3 0 2) 40) (hq : Q (.inl none) (sS L (drpI I) J)) : rf_C l 69 [.inr (.inr (some (3, 0)))] (sS L I J) Q := by
  apply rf_C.ofW
  have e1 : (I 3 0 2 + 40 - 1) - (I 3 0 2 + 40 - 1) / 40 * 40 = Int32.ofNat ((nn (I 3 0 2) + 39) % 40) := by
    have := jr_prev (nn (I 3 0 2)) hl.2
    rw [nn_of hl.1] at this
    exact this
  have hk : ∀ k, k = Int32.ofNat ((nn (I 3 0 2) + 39) % 40) → Q (.inl none) (sS L (rf_u3 (rf_u3 I 3 0 2 k) 3 0 3 ((rf_u3 I 3 0 2 k) 3 0 3 - 1)) J) := by
    rintro _ rfl
    rw [u3_f (by decide) 0]
    exact hq
  exact rf_goW rf_mo_69 rf_T_69 20 [] (And.intro (by decide) (hk _ e1))
/-! the edits of the class -/
/-- what the edits ask of the journal and the counts -/
def jrOk (I : Nat → Nat → Nat → Int32) : Prop := ok (I 3 0 2) 40 ∧ ok (I 3 0 3) 41 ∧ (∀ c, c < 8 → ok (I 1 (40 + c) 1) 5) ∧ (∀ k, k < 40 → ok (I 1 k 1) 5 ∧ ok (I 100 6 k) 8)
theorem st1 {i : Int32} {n : Nat} (h : ok i n) : Int32.ofNat (nn i) = i := nn_of h.1
theorem c_station {c s : Int32} (hj : jrOk I) (h0 : ¬ (ok c 8 ∧ ok s 3) → Q (.inr 0) (sS L I J)) (h2 : ok c 8 → ok s 3 → busy I (40 + nn c) → Q (.inr 2) (sS L I J))
    (hq : ok c 8 → ok s 3 → ¬ busy I (40 + nn c) → Q (.inl none) (sS L (rf_u3 (remI I (nn c)) 1 (40 + nn c) 2 s) J)) : rf_C l 53 [.inr (.inr (some (7, 0))), .inl c, .inl s] (sS L I J) Q := by
  apply rf_C.ofW
  refine rf_goW rf_mo_53 rf_T_53 60 [] (And.intro ⟨by decide, by decide⟩ (c_checkIx (n := 8) (by decide) (fun a1 => And.intro ⟨by decide, by decide⟩ (c_checkIx (n := 3) (by decide) (fun a2 => And.intro a1 (And.intro ⟨by decide, by decide⟩ (c_isBusy (fun hb => br_ne1 (And.intro ⟨by decide, by decide⟩ (c_checkState (fun q => absurd rfl q) (fun _ => h2 a1 a2 hb)))) (fun hb => br_ne0 (And.intro ⟨by decide, by decide⟩ (c_checkState (fun _ => ?_) (fun q => absurd q (by decide)))))))) (fun a2 => h0 fun q => a2 q.2))) (fun a1 => h0 fun q => a1 q.1)))
  have hq' := hq a1 a2 hb
  have hc8 : nn c < 8 := a1.2
  rw [← nn_of a1.1, nn_nat (by omega)] at hq'
  rw [← nn_of a1.1]
  refine And.intro ⟨by decide, by decide⟩ (c_rememberEdit hc8 hj.1 hj.2.1 (hj.2.2.1 _ hc8) (And.intro (nt_ix (n := 8) hc8 (by decide)) ?_))
  rw [nt_cl (by omega)]
  exact hq'
end LP
