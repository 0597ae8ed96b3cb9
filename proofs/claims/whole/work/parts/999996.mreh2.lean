/-! the model: rehearse -/
section NE
variable {l : Launch} {Q : rf_O → rf_S → Prop} {L : Nat} {I : Nat → Nat → Nat → Int32} {J : Nat → Nat → Nat → Int64} {σ : rf_S}
def mrC (I : Nat → Nat → Nat → Int32) (c : Nat) (p : Int32) : Prop := mHas I c p ∧ ∀ j, j < mN I c → ¬ I 101 3 (nn (mP I c 0 j)) = 0
def mrS (I : Nat → Nat → Nat → Int32) : (Nat → Int32) × (Nat → Int32) := (slR (I 100 23) (I 100 38) 6, slR (fun _ => 0) (I 100 39) 4)
theorem rmN_ok {P : Nat → Nat → Int32} {b : Nat → Int32} {s : (Nat → Int32) × (Nat → Int32)} {n : Nat} (hP : ∀ m, m < n → ok (P 0 m) 6 ∧ ok (P 2 m) 13 ∧ pl (P 1 m)) (h1 : ∀ p, p < 6 → pl (s.1 p)) (h2 : ∀ j, ok (s.2 j) 13 ∨ n ≤ j) : ∀ k, (∀ p, p < 6 → pl ((rmN P b n s k).1 p)) ∧ ∀ j, ok ((rmN P b n s k).2 j) 13 ∨ n ≤ j
  | 0 => ⟨h1, h2⟩
  | k + 1 => by
    obtain ⟨i1, i2⟩ := rmN_ok (b := b) hP h1 h2 k
    exact rm1_ok hP i1 i2 n (Nat.le_refl _)
theorem d_rehearse {c p n : Int32} (hc : ∀ c, c < 8 → mpOk I c) (hm : ∀ p, p < 6 → pl (I 100 23 p)) (hg : ∀ c, c < 8 → ∀ m, m < mN I c → pl (mP I c 1 m))
    (h0 : ¬ (ok c 8 ∧ ok n 401 ∧ mrC I (nn c) p) → Q (.inl (some (.inl (-1)))) (sS L (thI I 0) J))
    (hq : ok c 8 → ok n 401 → mrC I (nn c) p → ∀ s, s = rmN (mP I (nn c)) (mG I (nn c)) (mN I (nn c)) (mrS I) (nn n) → Q (.inl (some (.inl (s.1 (nn p))))) (sS L (rh2 (thI I 0) s) J)) : rf_C l 162 [.inr (.inr (some (8, 0))), .inl c, .inl p, .inl n] (sS L I J) Q := by
  apply rf_C.ofW
  have t100 : thI I 0 100 = I 100 := thI_b (by decide)
  have t101 : thI I 0 101 = I 101 := thI_b (by decide)
  have tP : ∀ d, mP (thI I 0) d = mP I d := fun d => by
    funext f m
    unfold mP
    rw [t100]
  have tN : ∀ d, mN (thI I 0) d = mN I d := fun d => by
    unfold mN
    rw [t100]
  have tH : ∀ d, mHas (thI I 0) d p ↔ mHas I d p := fun d => by
    unfold mHas
    rw [tP, tN]
  have g5 : rf_W l 162 5 [some (.inr (.inr (some (8, 0)))), some (.inl c), some (.inl p), some (.inl n), none, none, none, none, none, none, none, none, none] [] (sS L (thI I 0) J) 0 0 Q := by
    refine rf_goW rf_mo_162 rf_T_162 60 [36] (And.intro ⟨by decide, by decide⟩ (d_isNumber (n := 8) (by decide) (fun a1 => br_eq1 (And.intro (fun e => h0 fun q => i_nlt.mpr q.2.1.1 e) (fun e => And.intro (fun f => h0 fun q => i_nlt.mpr ((wi_ok (n := 400) (by decide)).mpr q.2.1).2 f) (fun f => And.intro ⟨by decide, by decide⟩ (d_moveFor' (I := thI I 0) a1 (by rw [t100]; exact (hc _ a1.2).1) (fun b m hm' => And.intro (fun _ => ?_) (fun hd => absurd hm' hd)) (fun b => And.intro (fun hd => absurd hd (by decide)) (fun _ => h0 fun q => b ((tH _).mpr q.2.2.1)))))))) (fun a1 => br_eq0 (h0 fun q => a1 q.1))))
    have a2 : ok n 401 := (wi_ok (n := 400) (by decide)).mp ⟨i_nlt.mp e, i_nlt.mp f⟩
    rw [tH] at b
    obtain ⟨k, hk⟩ : ∃ k, k = nn c := ⟨_, rfl⟩
    have k8 : k < 8 := by rw [hk]; exact a1.2
    have ec : c = Int32.ofNat k := by rw [hk]; exact (nn_of a1.1).symm
    rw [← hk] at h0 hq b
    subst ec
    have i8 := nt_ix (n := 8) k8 (by decide)
    obtain ⟨hn, hP⟩ := hc k k8
    have n5 : nn (I 100 29 k) < 5 := hn.2
    have cn : I 100 29 k = Int32.ofNat (mN I k) := (nn_of hn.1).symm
    have N5 : mN I k < 5 := n5
    have nn401 : nn n < 401 := a2.2
    have pp : ok p 6 := by
      obtain ⟨m, hm1, hm2⟩ := b
      rw [← hm2]
      exact (hP m hm1).1
    -- the ticks
    have hP' : ∀ m, m < mN I k → ok (mP I k 0 m) 6 ∧ ok (mP I k 2 m) 13 ∧ pl (mP I k 1 m) := fun m h => ⟨(hP m h).1, (hP m h).2.1, hg k k8 m h⟩
    have s1 : ∀ p, p < 6 → pl ((mrS I).1 p) := fun p hp => by
      show pl (slR _ _ 6 p)
      rw [slR, if_pos hp]
      exact hm p hp
    have s2 : ∀ j, ok ((mrS I).2 j) 13 ∨ mN I k ≤ j := fun j => by
      by_cases q : j < 4
      · refine Or.inl ?_
        show ok (slR _ _ 4 j) 13
        rw [slR, if_pos q]
        exact ⟨by decide, by decide⟩
      · exact Or.inr (by omega)
    obtain ⟨S, hS⟩ : ∃ S, S = rmN (mP I k) (mG I k) (mN I k) (mrS I) := ⟨_, rfl⟩
    have Sok := rmN_ok (P := mP I k) (b := mG I k) (s := mrS I) (n := mN I k) hP' s1 s2
    rw [← hS] at Sok
    have ticks : mrC I k p → ∀ t, t ≤ nn n → rf_W l 162 157 [some (.inr (.inr (some (8, 0)))), some (.inl (Int32.ofNat k)), some (.inl p), some (.inl n), none, some (.inr (.inr (some (100, 39)))), some (.inl (Int32.ofNat t)), none, none, none, none, none, none] [] (sS L (rh2 (thI I 0) (S t)) J) 0 0 Q := by
      intro hr
      refine lp_dn ?_ ?_
      · refine rf_goW rf_mo_162 rf_T_162 30 [157] (And.intro (fun _ => And.intro pp ?_) (fun hd => absurd ((nn_le a2.1 (by omega)).mpr (Nat.le_refl _)) hd))
        have q := hq a1 a2 hr (S (nn n)) (by rw [hS])
        have e38 : rh2 (thI I 0) (S (nn n)) 100 38 = (S (nn n)).1 := rh2_a
        rw [← e38] at q
        exact q
      · intro t ht ih
        rw [← nt_succ t] at ih
        have step : ∀ m, m ≤ mN I k → rf_W l 162 166 [some (.inr (.inr (some (8, 0)))), some (.inl (Int32.ofNat k)), some (.inl p), some (.inl n), none, some (.inr (.inr (some (100, 39)))), some (.inl (Int32.ofNat t)), some (.inl (Int32.ofNat m)), none, none, none, none, none] [] (sS L (rh2 (thI I 0) (rm1 (mP I k) (mG I k) (S t) m)) J) 0 0 Q := by
          refine lp_dn ?_ ?_
          · have es : rm1 (mP I k) (mG I k) (S t) (mN I k) = S (t + 1) := by rw [hS, rmN]
            rw [es]
            refine rf_goW rf_mo_162 rf_T_162 30 [157, 166] (And.intro i8 ?_)
            rw [nt_cl (by omega)]
            refine And.intro (fun _ => fgt ih (by repeat (first | exact True.intro | refine And.intro rfl ?_))) (fun (hd : ¬ rh2 (thI I 0) (S (t + 1)) 100 29 k ≤ Int32.ofNat (mN I k)) => absurd ?_ hd)
            rw [rh2_o (by decide) (by decide), t100, cn]
            exact Int32.le_refl _
          · intro m hm' ihm
            rw [← nt_succ m] at ihm
            have hm4 : m < 4 := by omega
            obtain ⟨R, hR⟩ : ∃ R, R = rm1 (mP I k) (mG I k) (S t) m := ⟨_, rfl⟩
            obtain ⟨r1, r2⟩ := rm1_ok (b := mG I k) hP' (Sok t).1 (Sok t).2 m (by omega)
            rw [← hR] at r1 r2 ⊢
            have eP : ∀ f j, f < 5 → mP (rh2 (thI I 0) R) k f j = mP I k f j := fun f j hf => by
              show rh2 (thI I 0) R 100 (30 + f) _ = _
              rw [rh2_o (by omega) (by omega), t100]
              rfl
            have eG : ∀ j, mG (rh2 (thI I 0) R) k j = mG I k j := fun j => by
              show rh2 (thI I 0) R 100 23 (nn (mP (rh2 (thI I 0) R) k 0 j)) = _
              rw [eP 0 j (by decide), rh2_o (by decide) (by decide), t100]
              rfl
            have mg : mayG (mP (rh2 (thI I 0) R) k) (mG (rh2 (thI I 0) R) k) (rh2 (thI I 0) R 100 38) m ↔ mayG (mP I k) (mG I k) R.1 m := by
              unfold mayG
              rw [eP 3 _ (by decide), eP 1 _ (by decide), eP 0 _ (by decide), eP 4 _ (by decide), eG, rh2_a]
            refine rf_goW rf_mo_162 rf_T_162 30 [177] (And.intro i8 ?_)
            rw [nt_cl (by omega)]
            refine And.intro (fun (hd : rh2 (thI I 0) R 100 29 k ≤ Int32.ofNat m) => absurd hd ?_) (fun _ => ?_)
            · rw [rh2_o (by decide) (by decide), t100, cn]
              exact fun q => absurd ((nt_le (by omega) (by omega)).mp q) (by omega)
            have g177 := rb_body (l := l) (Q := Q) (L := L) (J := J) (I := rh2 (thI I 0) R) (c := k) (m := m) (p := p) (n := n) (x6 := Int32.ofNat t) k8 hm4 (by rw [eP 0 m (by decide)]; exact (hP m hm').1) (by rw [eP 2 m (by decide)]; exact (hP m hm').2.1) (by
                rw [eP 3 m (by decide), eP 0 _ (by decide)]
                by_cases q : mP I k 3 m = -1
                · exact Or.inl q
                · have o := (hP m hm').2.2 q
                  have o2 : nn (mP I k 3 m) < m := o.2
                  exact Or.inr ⟨⟨o.1, by show nn _ < 4; omega⟩, (hP _ (by omega)).1⟩) (by rw [rh2_v]; exact (r2 m).elim id fun q => absurd q (by omega)) (by rw [eP 1 m (by decide)]; exact hg k k8 m hm') (by rw [rh2_a, eP 0 m (by decide)]; exact r1 _ (hP m hm').1.2) (fun s hs => by
                rw [eP 0 m (by decide), eP 1 m (by decide), eP 2 m (by decide), rh2_a, rh2_v] at hs
                have es : s = rm1 (mP I k) (mG I k) (S t) (m + 1) := by
                  rw [rm1, ← hR, hs]
                  by_cases q : mayG (mP I k) (mG I k) R.1 m
                  · have q' := mg.mpr q
                    rw [rh2_a] at q'
                    rw [cif_t q, cif_t q']
                  · have q' : ¬ mayG (mP (rh2 (thI I 0) R) k) (mG (rh2 (thI I 0) R) k) R.1 m := fun w => q (mg.mp (by rw [rh2_a]; exact w))
                    rw [cif_f q, cif_f q']
                rw [rh2_2, es]
                exact rf_goW rf_mo_162 rf_T_162 30 [166] (fgt ihm (by repeat (first | exact True.intro | refine And.intro rfl ?_))))
            exact fgt g177 (by repeat (first | exact True.intro | refine And.intro rfl ?_))
        have st := step 0 (by omega)
        rw [rm1] at st
        refine rf_goW rf_mo_162 rf_T_162 30 [166] (And.intro (fun hd => absurd ((nn_le a2.1 (by omega)).mp hd) (by omega)) (fun _ => ?_))
        exact fgt st (by repeat (first | exact True.intro | refine And.intro rfl ?_))
    have sp : mrC I k p → ∀ j, j ≤ 4 → rf_W l 162 136 [some (.inr (.inr (some (8, 0)))), some (.inl (Int32.ofNat k)), some (.inl p), some (.inl n), none, some (.inr (.inr (some (100, 39)))), some (.inl (Int32.ofNat j)), none, none, none, none, none, none] [] (sS L (rh2 (thI I 0) (slR (I 100 23) (I 100 38) 6, slR (fun _ => 0) (I 100 39) j)) J) 0 0 Q := by
      intro hr
      refine lp_dn ?_ ?_
      · have st := ticks hr 0 (by omega)
        rw [hS, rmN] at st
        exact rf_goW rf_mo_162 rf_T_162 30 [136, 157] (And.intro (fun _ => fgt st (by repeat (first | exact True.intro | refine And.intro rfl ?_))) (fun hd => absurd (Int32.le_refl _) hd))
      · intro j hj ih
        rw [← nt_succ j] at ih
        refine rf_goW rf_mo_162 rf_T_162 30 [136] (And.intro (fun hd => absurd ((nt_le (i := 4) (by omega) (by omega)).mp hd) (by omega)) (fun _ => And.intro (nt_ix (n := 4) hj (by decide)) ?_))
        rw [nt_cl (by omega)]
        have es : rf_u3 (rh2 (thI I 0) (slR (I 100 23) (I 100 38) 6, slR (fun _ => 0) (I 100 39) j)) 100 39 j 0 = rh2 (thI I 0) (slR (I 100 23) (I 100 38) 6, slR (fun _ => 0) (I 100 39) (j + 1)) := by
          rw [u3_ro, rh2_v]
          show ro (ro _ 100 39 _) 100 39 (uf (slR (fun _ => 0) (I 100 39) j) j 0) = _
          rw [ro_ro, slR_s (g := fun _ => 0)]
          rfl
        rw [← es] at ih
        exact ih
    have pc : mrC I k p → ∀ j, j ≤ 6 → rf_W l 162 100 [some (.inr (.inr (some (8, 0)))), some (.inl (Int32.ofNat k)), some (.inl p), some (.inl n), none, some (.inl (Int32.ofNat j)), none, none, none, none, none, none, none] [] (sS L (ro (thI I 0) 100 38 (slR (I 100 23) (I 100 38) j)) J) 0 0 Q := by
      intro hr
      refine lp_dn ?_ ?_
      · have st := sp hr 0 (by omega)
        have es : rh2 (thI I 0) (slR (I 100 23) (I 100 38) 6, slR (fun _ => 0) (I 100 39) 0) = ro (thI I 0) 100 38 (slR (I 100 23) (I 100 38) 6) := by
          unfold rh2
          rw [slR_0]
          have : I 100 39 = ro (thI I 0) 100 38 (slR (I 100 23) (I 100 38) 6) 100 39 := by rw [ro_ne (by decide), t100]
          show ro (ro (thI I 0) 100 38 (slR (I 100 23) (I 100 38) 6)) 100 39 (I 100 39) = _
          rw [this, ro_id]
        rw [es] at st
        exact rf_goW rf_mo_162 rf_T_162 30 [100, 136] (And.intro (fun _ => fgt st (by repeat (first | exact True.intro | refine And.intro rfl ?_))) (fun hd => absurd (Int32.le_refl _) hd))
      · intro j hj ih
        rw [← nt_succ j] at ih
        refine rf_goW rf_mo_162 rf_T_162 30 [100] (And.intro (fun hd => absurd ((nt_le (i := 6) (by omega) (by omega)).mp hd) (by omega)) (fun _ => And.intro (nt_ix (n := 6) hj (by decide)) (And.intro (nt_ix (n := 6) hj (by decide)) ?_)))
        rw [nt_cl (by omega)]
        have es : rf_u3 (ro (thI I 0) 100 38 (slR (I 100 23) (I 100 38) j)) 100 38 j (ro (thI I 0) 100 38 (slR (I 100 23) (I 100 38) j) 100 23 j) = ro (thI I 0) 100 38 (slR (I 100 23) (I 100 38) (j + 1)) := by
          rw [u3_ro, ro_self, ro_ro, ro_ne (by decide), t100, slR_s]
        rw [← es] at ih
        exact ih
    -- do the pieces hang
    have fin : rf_W l 162 90 [some (.inr (.inr (some (8, 0)))), some (.inl (Int32.ofNat k)), some (.inl p), some (.inl n), some (.inl (al (fun j => ¬ I 101 3 (nn (mP I k 0 j)) = 0) (mN I k))), none, none, none, none, none, none, none, none] [] (sS L (thI I 0) J) 0 0 Q := by
      refine rf_goW rf_mo_162 rf_T_162 30 [100] (And.intro (fun e => ?_) (fun e => h0 fun q => al_iff.mpr q.2.2.2 e))
      have st := pc ⟨b, al_iff.mp e⟩ 0 (by omega)
      have e0 : ro (thI I 0) 100 38 (slR (I 100 23) (I 100 38) 0) = thI I 0 := by rw [slR_0, ← t100, ro_id]
      rw [e0] at st
      exact fgt st (by repeat (first | exact True.intro | refine And.intro rfl ?_))
    have key : ∀ m, m ≤ mN I k → rf_W l 162 42 [some (.inr (.inr (some (8, 0)))), some (.inl (Int32.ofNat k)), some (.inl p), some (.inl n), some (.inl (al (fun j => ¬ I 101 3 (nn (mP I k 0 j)) = 0) m)), some (.inl (Int32.ofNat m)), none, none, none, none, none, none, none] [] (sS L (thI I 0) J) 0 0 Q := by
      refine lp_dn ?_ ?_
      · refine rf_goW rf_mo_162 rf_T_162 30 [42, 90] (And.intro i8 ?_)
        rw [nt_cl (by omega)]
        refine And.intro (fun _ => fgt fin (by repeat (first | exact True.intro | refine And.intro rfl ?_))) (fun (hd : ¬ thI I 0 100 29 k ≤ Int32.ofNat (mN I k)) => absurd ?_ hd)
        rw [t100, cn]
        exact Int32.le_refl _
      · intro m hm' ih
        rw [← nt_succ m] at ih
        have hm4 : m < 4 := by omega
        have g82 : ∀ z, z = al (fun j => ¬ I 101 3 (nn (mP I k 0 j)) = 0) (m + 1) → rf_W l 162 82 [some (.inr (.inr (some (8, 0)))), some (.inl (Int32.ofNat k)), some (.inl p), some (.inl n), none, some (.inl (Int32.ofNat m)), none, none, none, none, none, none, none] [.inl z] (sS L (thI I 0) J) 0 0 Q := by
          rintro _ rfl
          exact rf_goW rf_mo_162 rf_T_162 30 [42] ih
        refine rf_goW rf_mo_162 rf_T_162 30 [82] (And.intro i8 ?_)
        rw [nt_cl (by omega)]
        refine And.intro (fun (hd : thI I 0 100 29 k ≤ Int32.ofNat m) => absurd hd ?_) (fun _ => And.intro (fun f => fgt (g82 _ (al_k f).symm) (by repeat (first | exact True.intro | refine And.intro rfl ?_))) (fun f => And.intro (ix32 k8 hm4) ?_))
        · rw [t100, cn]
          exact fun q => absurd ((nt_le (by omega) (by omega)).mp q) (by omega)
        rw [nn4 k8 hm4]
        have op : ok (thI I 0 100 30 (4 * k + m)) 6 := by rw [t100]; exact (hP m hm').1
        have eh : thI I 0 101 3 (nn (thI I 0 100 30 (4 * k + m))) = I 101 3 (nn (mP I k 0 m)) := by rw [t100, t101]; rfl
        refine And.intro op (And.intro (fun (g : thI I 0 101 3 (nn (thI I 0 100 30 (4 * k + m))) = 0) => ?_) (fun (g : ¬ thI I 0 101 3 (nn (thI I 0 100 30 (4 * k + m))) = 0) => ?_))
        · rw [eh] at g
          exact fgt (g82 _ (al_n (A := fun j => ¬ I 101 3 (nn (mP I k 0 j)) = 0) (fun q => q g)).symm) (by repeat (first | exact True.intro | refine And.intro rfl ?_))
        · rw [eh] at g
          exact fgt (g82 _ (al_y (A := fun j => ¬ I 101 3 (nn (mP I k 0 j)) = 0) f g).symm) (by repeat (first | exact True.intro | refine And.intro rfl ?_))
    have k0 := key 0 (by omega)
    rw [al_0] at k0
    have g36 : rf_W l 162 36 [some (.inr (.inr (some (8, 0)))), some (.inl (Int32.ofNat k)), some (.inl p), some (.inl n), none, none, none, none, none, none, none, none, none] [] (sS L (thI I 0) J) 0 0 Q := rf_goW rf_mo_162 rf_T_162 30 [42] k0
    exact g36
  exact rf_goW rf_mo_162 rf_T_162 20 [5] g5
end NE
