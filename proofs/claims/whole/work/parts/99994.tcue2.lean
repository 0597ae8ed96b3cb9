/-! the model: a tick of a cue, whole -/
section MT2
variable {l : Launch} {Q : rf_O → rf_S → Prop} {L : Nat} {I : Nat → Nat → Nat → Int32} {J : Nat → Nat → Nat → Int64} {σ : rf_S}
/-- whether it was so of all of the first i -/
noncomputable def al (A : Nat → Prop) (i : Nat) : Int32 := cif (∀ j, j < i → A j) 1 0
theorem al_0 {A : Nat → Prop} : al A 0 = 1 := cif_t fun _ h => absurd h (by omega)
theorem al_iff {A : Nat → Prop} {i : Nat} : ¬ al A i = 0 ↔ ∀ j, j < i → A j := by
  by_cases q : ∀ j, j < i → A j
  · exact ⟨fun _ => q, fun _ e => absurd ((cif_t q).symm.trans e) (by decide)⟩
  · exact ⟨fun h => absurd (cif_f q) h, fun r => absurd r q⟩
theorem al_y {A : Nat → Prop} {i : Nat} (h : ¬ al A i = 0) (h' : A i) : al A (i + 1) = 1 := cif_t fun j hj => by
  by_cases e : j = i
  · exact e ▸ h'
  · exact al_iff.mp h j (by omega)
theorem al_n {A : Nat → Prop} {i : Nat} (h : ¬ A i) : al A (i + 1) = 0 := cif_f fun q => h (q i (by omega))
theorem al_k {A : Nat → Prop} {i : Nat} (h : al A i = 0) : al A (i + 1) = 0 := cif_f fun q => absurd h (al_iff.mpr fun j hj => q j (by omega))
theorem al_01 {A : Nat → Prop} {i : Nat} : al A i = 0 ∨ al A i = 1 := by
  by_cases q : ∀ j, j < i → A j
  · exact Or.inr (cif_t q)
  · exact Or.inl (cif_f q)
/-- a move that is not a piece's leaves it where it is -/
theorem advR_ne {P : Nat → Nat → Int32} {b : Nat → Int32} {h : Int32} {s : (Nat → Int32) × (Nat → Int32)} {p k : Nat} : ∀ n, k ≤ n → (∀ m, k ≤ m → m < n → ¬ nn (P 0 m) = p) → (advR P b h s n).1 p = (advR P b h s k).1 p ∧ (advR P b h s n).2 p = (advR P b h s k).2 p
  | 0, hk, _ => by
    have : k = 0 := by omega
    subst this
    exact ⟨rfl, rfl⟩
  | n + 1, hk, hm => by
    by_cases e : k = n + 1
    · subst e; exact ⟨rfl, rfl⟩
    · obtain ⟨i1, i2⟩ := advR_ne (P := P) (b := b) (h := h) (s := s) (p := p) (k := k) n (by omega) (fun m h1 h2 => hm m h1 (by omega))
      have hn : ¬ p = nn (P 0 n) := fun q => hm n (by omega) (by omega) q.symm
      by_cases c : mayG P b (advR P b h s n).1 n
      · rw [advR, cif_t c, adv1]
        refine ⟨?_, ?_⟩
        · show uf _ _ _ p = _
          rw [uf, if_neg hn]; exact i1
        · show uf _ _ _ p = _
          rw [uf, if_neg hn]; exact i2
      · rw [advR, cif_f c]
        exact ⟨i1, i2⟩
/-- the model's rows of states, places and speeds anew -/
def ts3 (I : Nat → Nat → Nat → Int32) (t : (Nat → Int32) × (Nat → Int32) × (Nat → Int32)) : Nat → Nat → Nat → Int32 := av2 (ro I 100 27 t.1) t.2
theorem ts3_id : ts3 I (I 100 27, I 100 23, I 100 24) = I := by
  show av2 (ro I 100 27 (I 100 27)) (I 100 23, I 100 24) = I
  rw [ro_id, av2_id]
theorem ts3_b {b : Nat} {t : (Nat → Int32) × (Nat → Int32) × (Nat → Int32)} (h : ¬ b = 100) : ts3 I t b = I b := by rw [ts3, av2_b h, ro_b h]
theorem ts3_x {t : (Nat → Int32) × (Nat → Int32) × (Nat → Int32)} : ts3 I t 100 27 = t.1 := by rw [ts3, av2_o (by decide) (by decide), ro_self]
theorem ts3_a {t : (Nat → Int32) × (Nat → Int32) × (Nat → Int32)} : ts3 I t 100 23 = t.2.1 := av2_a
theorem ts3_v {t : (Nat → Int32) × (Nat → Int32) × (Nat → Int32)} : ts3 I t 100 24 = t.2.2 := av2_v
theorem ts3_o {k : Nat} {t : (Nat → Int32) × (Nat → Int32) × (Nat → Int32)} (h1 : ¬ k = 23) (h2 : ¬ k = 24) (h3 : ¬ k = 27) : ts3 I t 100 k = I 100 k := by rw [ts3, av2_o h1 h2, ro_ne (by omega)]
theorem ts3_2 {t t' : (Nat → Int32) × (Nat → Int32) × (Nat → Int32)} : ts3 (ts3 I t) t' = ts3 I t' := by
  funext b i f
  by_cases h1 : b = 100
  · subst h1
    by_cases h2 : i = 27
    · subst h2; simp [ts3, av2, ro]
    · by_cases h3 : i = 23
      · subst h3; simp [ts3, av2, ro]
      · by_cases h4 : i = 24
        · subst h4; simp [ts3, av2, ro]
        · simp [ts3, av2, ro, h2, h3, h4]
  · simp [ts3, av2, ro, h1]
theorem ts3_stop {s : (Nat → Int32) × (Nat → Int32)} {y y' v : Nat → Int32} : ro (ro (ro (av2 I s) 100 27 y) 100 24 v) 100 27 y' = ts3 I (y', s.1, v) := by
  funext b i f
  by_cases h1 : b = 100
  · subst h1
    by_cases h2 : i = 27
    · subst h2; simp [ts3, av2, ro]
    · by_cases h3 : i = 23
      · subst h3; simp [ts3, av2, ro]
      · by_cases h4 : i = 24
        · subst h4; simp [ts3, av2, ro]
        · simp [ts3, av2, ro, h2, h3, h4]
  · simp [ts3, av2, ro, h1]
theorem ts3_st {s : (Nat → Int32) × (Nat → Int32)} {y : Nat → Int32} : ro (av2 I s) 100 27 y = ts3 I (y, s) := by
  funext b i f
  by_cases h1 : b = 100
  · subst h1
    by_cases h2 : i = 27
    · subst h2; simp [ts3, av2, ro]
    · by_cases h3 : i = 23
      · subst h3; simp [ts3, av2, ro]
      · by_cases h4 : i = 24
        · subst h4; simp [ts3, av2, ro]
        · simp [ts3, av2, ro, h2, h3, h4]
  · simp [ts3, av2, ro, h1]
theorem uf_uf {g : Nat → Int32} {j : Nat} {x y : Int32} : uf (uf g j x) j y = uf g j y := by
  funext f
  by_cases h : f = j <;> simp [uf, h]
/-- what is asked of a cue and the rows for a tick -/
def tcOk (P : Nat → Nat → Int32) (b : Nat → Int32) (h : Int32) (n : Nat) (s : (Nat → Int32) × (Nat → Int32)) : Prop :=
  (∀ p, p < 6 → ok (s.2 p) 13) ∧ (∀ i j, i < n → j < n → nn (P 0 i) = nn (P 0 j) → i = j) ∧ ∀ m, m < n → gOk P h (advR P b h s m) m
theorem d_tickCue {c : Nat} (hc : c < 8) (hp : mpOk I c) (hs : ok (I 100 28 c) 3) (ht : tcOk (mP I c) (mB I c) (I 101 4 (nn (I 100 28 c))) (mN I c) (I 100 23, I 100 24))
    (hq : ∀ r, r = rcR (mP I c) (mB I c) (I 101 4 (nn (I 100 28 c))) (mN I c) (I 100 27 c) (I 100 23, I 100 24) → Q (.inl none) (sS L (ts3 I (uf (I 100 27) c r.1, r.2)) J)) : rf_C l 130 [.inr (.inr (some (8, 0))), .inl (Int32.ofNat c)] (sS L I J) Q := by
  apply rf_C.ofW
  have i8 := nt_ix (n := 8) hc (by decide)
  obtain ⟨hv, hd, hg⟩ := ht
  obtain ⟨h, hh⟩ : ∃ h, h = I 101 4 (nn (I 100 28 c)) := ⟨_, rfl⟩
  rw [← hh] at hg hq
  obtain ⟨n, hn⟩ : ∃ n, n = mN I c := ⟨_, rfl⟩
  have n5 : n < 5 := by rw [hn]; exact hp.1.2
  have cn : I 100 29 c = Int32.ofNat n := by rw [hn]; exact (nn_of hp.1.1).symm
  have hp2 := hp.2
  rw [← hn] at hg hq hd hp2
  obtain ⟨R, hR⟩ : ∃ R, R = advR (mP I c) (mB I c) h (I 100 23, I 100 24) := ⟨_, rfl⟩
  rw [← hR] at hg
  have hv' : ∀ m, m ≤ n → ∀ p, p < 6 → ok ((R m).2 p) 13 := by
    rw [hR]
    exact advR_v (P := mP I c) (b := mB I c) (h := h) (s := (I 100 23, I 100 24)) (n := n) hv (fun j hj => ⟨(hp2 j hj).1, (hp2 j hj).2.1⟩)
  -- behind the loop
  have fin : rf_W l 130 285 [some (.inr (.inr (some (8, 0)))), some (.inl (Int32.ofNat c)), some (.inl h), some (.inl (al (fun j => (R (j + 1)).1 (nn (mP I c 0 j)) = mP I c 1 j) n)), some (.inl (al (fun j => (R (j + 1)).2 (nn (mP I c 0 j)) = 0) n)), none, none, none, none, none] [] (sS L (av2 I (R n)) J) 0 0 Q := by
    have same : ∀ j, j < n → (R n).1 (nn (mP I c 0 j)) = (R (j + 1)).1 (nn (mP I c 0 j)) ∧ (R n).2 (nn (mP I c 0 j)) = (R (j + 1)).2 (nn (mP I c 0 j)) := by
      intro j hj
      rw [hR]
      exact advR_ne n (by omega) fun m h1 h2 e => absurd (hd m j h2 hj e) (by omega)
    have a3 : (∀ j, j < n → (R (j + 1)).1 (nn (mP I c 0 j)) = mP I c 1 j) ↔ ∀ j, j < n → (R n).1 (nn (mP I c 0 j)) = mP I c 1 j := by
      refine ⟨fun q j hj => ?_, fun q j hj => ?_⟩
      · rw [(same j hj).1]; exact q j hj
      · rw [← (same j hj).1]; exact q j hj
    have a4 : (∀ j, j < n → (R (j + 1)).2 (nn (mP I c 0 j)) = 0) ↔ ∀ j, j < n → (R n).2 (nn (mP I c 0 j)) = 0 := by
      refine ⟨fun q j hj => ?_, fun q j hj => ?_⟩
      · rw [(same j hj).2]; exact q j hj
      · rw [← (same j hj).2]; exact q j hj
    have hq' := hq _ rfl
    rw [rcR, ← hR] at hq'
    refine rf_goW rf_mo_130 rf_T_130 30 [] (And.intro (fun e => ?_) (fun e => ?_))
    · have e' : ¬ ∀ j, j < n → (R n).1 (nn (mP I c 0 j)) = mP I c 1 j := fun q => al_iff.mpr (a3.mpr q) e
      rw [cif_f e'] at hq'
      have keep : ¬ (h = 0 ∧ ∀ j, j < n → (R n).2 (nn (mP I c 0 j)) = 0) → Q (.inl none) (sS L (av2 I (R n)) J) := by
        intro q
        rw [cif_f q] at hq'
        have : ts3 I (uf (I 100 27) c (I 100 27 c), R n) = av2 I (R n) := by rw [uf_id, ts3, ro_id]
        rw [← this]
        exact hq'
      refine And.intro (fun f => keep fun q => f q.1) (fun f => And.intro (fun g => keep fun q => al_iff.mpr (a4.mpr q.2) g) (fun g => And.intro i8 ?_))
      rw [nt_cl (by omega)]
      rw [cif_t ⟨f, a4.mp (al_iff.mp g)⟩] at hq'
      have es : rf_u3 (av2 I (R n)) 100 27 c 3 = ts3 I (uf (I 100 27) c 3, R n) := by rw [u3_ro, av2_o (by decide) (by decide), ts3_st]
      refine eqS (Q := Q) ?_ hq'
      show sS L (rf_u3 (av2 I (R n)) 100 27 c 3) J = _
      rw [es]
    · have e' : ∀ j, j < n → (R n).1 (nn (mP I c 0 j)) = mP I c 1 j := a3.mp (al_iff.mp e)
      rw [cif_t e'] at hq'
      have e29 : av2 I (R n) 100 29 = I 100 29 := av2_o (by decide) (by decide)
      have eP : mP (av2 I (R n)) c 0 = mP I c 0 := by
        funext m
        show av2 I (R n) 100 30 _ = _
        rw [av2_o (by decide) (by decide)]
        rfl
      have eN : mN (av2 I (R n)) c = n := by
        unfold mN
        rw [e29]
        exact hn.symm
      refine And.intro ⟨by decide, by decide⟩ (d_stop hc (by rw [e29]; exact hp.1) (fun j hj => by rw [eP]; rw [eN] at hj; exact (hp2 j hj).1) (And.intro i8 ?_))
      rw [nt_cl (by omega), eP, eN]
      refine eqS (Q := Q) ?_ hq'
      show sS L (rf_u3 (ro (ro (av2 I (R n)) 100 27 _) 100 24 _) 100 27 c 4) J = _
      rw [u3_ro, ro_ne (by decide), ro_self, av2_o (by decide) (by decide), uf_uf, av2_v, ts3_stop]
  have key : ∀ m, m ≤ n → rf_W l 130 20 [some (.inr (.inr (some (8, 0)))), some (.inl (Int32.ofNat c)), some (.inl h), some (.inl (al (fun j => (R (j + 1)).1 (nn (mP I c 0 j)) = mP I c 1 j) m)), some (.inl (al (fun j => (R (j + 1)).2 (nn (mP I c 0 j)) = 0) m)), some (.inl (Int32.ofNat m)), none, none, none, none] [] (sS L (av2 I (R m)) J) 0 0 Q := by
    refine lp_dn ?_ ?_
    · refine rf_goW rf_mo_130 rf_T_130 30 [20, 285] (And.intro i8 ?_)
      rw [nt_cl (by omega)]
      refine And.intro (fun _ => fgt fin (by repeat (first | exact True.intro | refine And.intro rfl ?_))) (fun (e : ¬ av2 I (R n) 100 29 c ≤ Int32.ofNat n) => absurd ?_ e)
      rw [av2_o (by decide) (by decide), cn]
      exact Int32.le_refl _
    · intro m hm ih
      have hm4 : m < 4 := by omega
      rw [← nt_succ m] at ih
      have eP : mP (av2 I (R m)) c = mP I c := by
        funext f j
        show av2 I (R m) 100 (30 + f) _ = _
        rw [av2_o (by omega) (by omega)]
        rfl
      have eB : mB (av2 I (R m)) c = mB I c := by
        funext j
        show av2 I (R m) 100 35 _ = _
        rw [av2_o (by decide) (by decide)]
        rfl
      have i32 := ix32 hc hm4
      have n32 := nn4 hc hm4
      obtain ⟨hm0, hm2, hm3⟩ := hp2 m hm
      have g277 : ∀ z, z = al (fun j => (R (j + 1)).2 (nn (mP I c 0 j)) = 0) (m + 1) → rf_W l 130 277 [some (.inr (.inr (some (8, 0)))), some (.inl (Int32.ofNat c)), some (.inl h), some (.inl (al (fun j => (R (j + 1)).1 (nn (mP I c 0 j)) = mP I c 1 j) (m + 1))), none, some (.inl (Int32.ofNat m)), none, none, none, none] [.inl z] (sS L (av2 I (R (m + 1))) J) 0 0 Q := by
        rintro _ rfl
        exact rf_goW rf_mo_130 rf_T_130 30 [20] ih
      have g256 : ∀ z, z = al (fun j => (R (j + 1)).1 (nn (mP I c 0 j)) = mP I c 1 j) (m + 1) → rf_W l 130 256 [some (.inr (.inr (some (8, 0)))), some (.inl (Int32.ofNat c)), some (.inl h), none, some (.inl (al (fun j => (R (j + 1)).2 (nn (mP I c 0 j)) = 0) m)), some (.inl (Int32.ofNat m)), none, some (.inl (mP I c 0 m)), none, none] [.inl z] (sS L (av2 I (R (m + 1))) J) 0 0 Q := by
        rintro _ rfl
        have e24 : av2 I (R (m + 1)) 100 24 = (R (m + 1)).2 := av2_v
        refine rf_goW rf_mo_130 rf_T_130 30 [277] (And.intro (fun f => ?_) (fun f => And.intro hm0 ?_))
        · exact fgt (g277 _ (al_k f).symm) (by repeat (first | exact True.intro | refine And.intro rfl ?_))
        · refine And.intro (fun (g : ¬ av2 I (R (m + 1)) 100 24 (nn (mP I c 0 m)) = 0) => ?_) (fun (g : av2 I (R (m + 1)) 100 24 (nn (mP I c 0 m)) = 0) => ?_)
          · rw [e24] at g
            exact fgt (g277 _ (al_n g).symm) (by repeat (first | exact True.intro | refine And.intro rfl ?_))
          · rw [e24] at g
            exact fgt (g277 _ (al_y (A := fun j => (R (j + 1)).2 (nn (mP I c 0 j)) = 0) f g).symm) (by repeat (first | exact True.intro | refine And.intro rfl ?_))
      have g230 : rf_W l 130 230 [some (.inr (.inr (some (8, 0)))), some (.inl (Int32.ofNat c)), some (.inl h), some (.inl (al (fun j => (R (j + 1)).1 (nn (mP I c 0 j)) = mP I c 1 j) m)), some (.inl (al (fun j => (R (j + 1)).2 (nn (mP I c 0 j)) = 0) m)), some (.inl (Int32.ofNat m)), some (.inl (4 * Int32.ofNat c + Int32.ofNat m)), some (.inl (mP I c 0 m)), none, none] [] (sS L (av2 I (R (m + 1))) J) 0 0 Q := by
        have e23 : av2 I (R (m + 1)) 100 23 = (R (m + 1)).1 := av2_a
        have e31 : av2 I (R (m + 1)) 100 31 (4 * c + m) = mP I c 1 m := by rw [av2_o (by decide) (by decide)]; rfl
        refine rf_goW rf_mo_130 rf_T_130 30 [256] (And.intro (fun f => ?_) (fun f => And.intro hm0 (And.intro i32 ?_)))
        · exact fgt (g256 _ (al_k f).symm) (by repeat (first | exact True.intro | refine And.intro rfl ?_))
        · rw [n32]
          refine And.intro (fun (g : ¬ av2 I (R (m + 1)) 100 23 (nn (mP I c 0 m)) = av2 I (R (m + 1)) 100 31 (4 * c + m)) => ?_) (fun (g : av2 I (R (m + 1)) 100 23 (nn (mP I c 0 m)) = av2 I (R (m + 1)) 100 31 (4 * c + m)) => ?_)
          · rw [e23, e31] at g
            exact fgt (g256 _ (al_n g).symm) (by repeat (first | exact True.intro | refine And.intro rfl ?_))
          · rw [e23, e31] at g
            exact fgt (g256 _ (al_y (A := fun j => (R (j + 1)).1 (nn (mP I c 0 j)) = mP I c 1 j) f g).symm) (by repeat (first | exact True.intro | refine And.intro rfl ?_))
      have g31 : rf_W l 130 31 [some (.inr (.inr (some (8, 0)))), some (.inl (Int32.ofNat c)), some (.inl h), some (.inl (al (fun j => (R (j + 1)).1 (nn (mP I c 0 j)) = mP I c 1 j) m)), some (.inl (al (fun j => (R (j + 1)).2 (nn (mP I c 0 j)) = 0) m)), some (.inl (Int32.ofNat m)), none, none, none, none] [] (sS L (av2 I (R m)) J) 0 0 Q := by
        refine tc_body (I := av2 I (R m)) hc hm4 ?_ ?_ ?_ ?_ ?_ ?_
        · rw [eP]; exact hm0
        · rw [eP]; exact hm2
        · rw [eP]
          by_cases q : mP I c 3 m = -1
          · exact Or.inl q
          · have o := hm3 q
            have o2 : nn (mP I c 3 m) < m := o.2
            exact Or.inr ⟨⟨o.1, by show nn _ < 4; omega⟩, (hp2 _ (by omega)).1⟩
        · rw [eP, av2_v]; exact hv' m (by omega) _ hm0.2
        · rw [eP, av2_a, av2_v]; exact hg m hm
        · intro s hs'
          rw [eP, eB, av2_a, av2_v] at hs'
          have : s = R (m + 1) := by rw [hs', hR, advR]
          rw [this, eP, av2_2]
          exact g230
      refine rf_goW rf_mo_130 rf_T_130 30 [31] (And.intro i8 ?_)
      rw [nt_cl (by omega)]
      refine And.intro (fun (e : av2 I (R m) 100 29 c ≤ Int32.ofNat m) => absurd e ?_) (fun _ => g31)
      rw [av2_o (by decide) (by decide), cn]
      exact fun q => absurd ((nt_le (i := n) (by omega) (by omega)).mp q) (by omega)
  have k0 := key 0 (by omega)
  rw [al_0, al_0] at k0
  have e0 : R 0 = (I 100 23, I 100 24) := by rw [hR, advR]
  rw [e0, av2_id] at k0
  refine rf_goW rf_mo_130 rf_T_130 30 [20] (And.intro i8 ?_)
  rw [nt_cl (by omega)]
  refine And.intro hs ?_
  rw [hh] at k0
  exact k0
end MT2
