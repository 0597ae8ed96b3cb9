/-! made and made ready -/
theorem cad_lt {c : Nat → Nat} {b : Nat} : c b < cad c b b := by
  unfold cad on
  rw [if_pos rfl]
  omega
theorem cad_le {c : Nat → Nat} {b b' i : Nat} (h : i < c b') : i < cad c b b' := by
  unfold cad
  omega
theorem i0_100 {i : Nat} (h : ¬ (i = 10 ∨ i = 16)) (h' : ¬ (18 ≤ i ∧ i ≤ 20)) (j : Nat) : i0 100 i j = 0 := by
  unfold i0
  rw [if_neg (by decide), if_neg (by decide), if_neg (by decide), if_pos rfl, if_neg (fun q => h q.1), if_neg (fun q => h' q.1)]
section CN
variable {l : Launch} {L : Nat} {Q : rf_O → rf_S → Prop} {σ : rf_S} {c : Nat → Nat} {N M : Nat → Nat → Nat}
/-- one whose constructor sets its own fields alone -/
theorem n_own {b k : Nat} {σ' : rf_S} (h : Bd L σ c N M) (hk : fl0 L b (c b) = k) (e : σ'.1 = (rf_newK σ b k).1) (hf' : fin L σ' b (c b)) (hs : ∀ b' i', ¬ (b' = b ∧ i' = c b) → same (rf_newK σ b k) σ' b' i') (hp : ∀ j, 1000 ≤ j → p0 b (c b) j = none) (hz : ∀ j, 1000 ≤ j → i0 b (c b) j = 0) : Bd L σ' (cad c b) N M := by
  have h1 := B_own (B_new h hk) e hf' hs hp hz
  obtain ⟨e1, e2⟩ := h.2.2 b (c b) (Nat.le_refl _)
  rw [u2_u2, u2_u2, u2_id e1, u2_id e2] at h1
  exact h1
theorem n_move (h : Bd L σ c N M) (hq : ∀ σ', Bd L σ' (cad c 5) N M → Q (.inl none) σ') : rf_C l 1 [.inr (.inr (some (5, σ.1 5)))] (rf_newK σ 5 5) Q := by
  have hb := B_new (b := 5) (k := 5) h rfl
  rw [h.1 5]
  refine k_move (L := L) (B_blk hb cad_lt u2_at u2_at (by decide)) fun σ' n f s => hq σ' (n_own h rfl n f s (fun _ _ => rfl) fun j hj => ?_)
  show (if j = 2 then 1 else if j = 3 then -1 else 0) = (0 : Int32)
  rw [if_neg (by omega), if_neg (by omega)]
theorem n_box (h : Bd L σ c N M) (hq : ∀ σ', Bd L σ' (cad c 0) N M → Q (.inl none) σ') : rf_C l 4 [.inr (.inr (some (0, σ.1 0)))] (rf_newK σ 0 5) Q := by
  have hb := B_new (b := 0) (k := 5) h rfl
  rw [h.1 0]
  refine k_box (L := L) (B_blk hb cad_lt u2_at u2_at (by decide)) fun σ' n f s => hq σ' (n_own h rfl n f s (fun _ _ => rfl) fun j hj => ?_)
  show (if 2 ≤ j ∧ j ≤ 4 then 1 else 0) = (0 : Int32)
  rw [if_neg (by omega)]
theorem n_drive (h : Bd L σ c N M) (hq : ∀ σ', Bd L σ' (cad c 2) N M → Q (.inl none) σ') : rf_C l 5 [.inr (.inr (some (2, σ.1 2)))] (rf_newK σ 2 9) Q := by
  have hb := B_new (b := 2) (k := 9) h rfl
  rw [h.1 2]
  refine k_drive (L := L) (B_blk hb cad_lt u2_at u2_at (by decide)) fun σ' n f s => hq σ' (n_own h rfl n f s (fun _ _ => rfl) fun j hj => ?_)
  show (if j = 0 ∨ j = 8 then -1 else 0) = (0 : Int32)
  rw [if_neg (by omega)]
/-- an int array made and put into a field -/
theorem B_ap {b k ab ai j n : Nat} (h : Bd L σ c N M) (hk : fl0 L b (c b) = k) (hp : ∀ j, p0 b (c b) j = none) (hz : ∀ j, i0 b (c b) j = 0) (hi : ai < c ab) (hn : N ab ai = n) (hj : n ≤ j) (hg : ∀ j', n ≤ j' → j' < j → p0 ab ai j' = none) (hx : p0 ab ai j = some (b, c b)) : Bd L (rf_putP (rf_newK σ b k) ab ai j (some (b, σ.1 b))) (cad c b) (rf_u2 N ab ai (j + 1)) M := by
  rw [h.1 b]
  exact B_putP (B_arr h hk hp hz) (cad_le hi) hn hj hg hx
theorem n_masters (h : Bd L σ c N M) (hc : c 100 = 3 * c 4) (hi : c 4 < 2) (hq : ∀ σ', Bd L σ' (fun b => c b + on b 4 + 3 * on b 100) N M → Q (.inl none) σ') : rf_C l 0 [.inr (.inr (some (4, σ.1 4)))] (rf_newK σ 4 3) Q := by
  have hb := B_ref (b := 4) (k := 3) h rfl (fun _ => rfl)
  rw [h.1 4]
  obtain ⟨ν, hν⟩ : ∃ ν, ν = c 4 := ⟨_, rfl⟩
  rw [← hν] at hc hi hb ⊢
  have hN : N 4 ν = 1000 := (h.2.2 4 ν (by omega)).1
  apply rf_C.ofW
  obtain ⟨c1, e1⟩ : ∃ c1, c1 = cad c 4 := ⟨_, rfl⟩
  obtain ⟨c2, e2⟩ : ∃ c1', c1' = cad c1 100 := ⟨_, rfl⟩
  obtain ⟨c3, e3⟩ : ∃ c1', c1' = cad c2 100 := ⟨_, rfl⟩
  rw [← e1] at hb
  have a4 : c1 4 = ν + 1 := by rw [e1, hν]; rfl
  have b4 : c2 4 = ν + 1 := by rw [e2, ← a4]; rfl
  have d4 : c3 4 = ν + 1 := by rw [e3, ← b4]; rfl
  have a1 : c1 100 = 3 * ν := by rw [e1, ← hc]; rfl
  have a2 : c2 100 = 3 * ν + 1 := by rw [e2, ← a1]; rfl
  have a3 : c3 100 = 3 * ν + 2 := by rw [e3, cad, a2]; rfl
  have zl : ∀ k, k < 6 → fl0 L 100 k = 6 := fun k hk => by
    have : k = 0 ∨ k = 1 ∨ k = 2 ∨ k = 3 ∨ k = 4 ∨ k = 5 := by omega
    rcases this with rfl | rfl | rfl | rfl | rfl | rfl <;> rfl
  have s3 : ∀ σ', Bd L σ' (cad c3 100) (rf_u2 N 4 ν 3) M → Q (.inl none) σ' := fun σ' h' => by
    have w := B_fN (b := 4) (i := ν) h' (fun j hj => by
      rw [u2_at] at hj
      show (if j < 3 then some (100, 3 * ν + j) else none) = none
      rw [if_neg (by omega)]) (fun j hj => by
      show (if j < 3 then some (100, 3 * ν + j) else none) = none
      rw [if_neg (by omega)])
    rw [u2_u2, u2_id hN] at w
    refine hq σ' (B_c w fun b => ?_)
    rw [e3, e2, e1]
    unfold cad
    omega
  have s2 : ∀ σ', Bd L σ' c3 (rf_u2 N 4 ν 2) M → Bd L (rf_putP (rf_newK σ' 100 6) 4 ν 2 (some (100, σ'.1 100))) (cad c3 100) (rf_u2 N 4 ν 3) M := fun σ' h' => by
    have w := B_ap (b := 100) (k := 6) (ab := 4) (ai := ν) (j := 2) h' (zl _ (by omega)) (fun _ => rfl) (i0_100 (by omega) (by omega)) (by omega) u2_at (Nat.le_refl _) (fun _ _ _ => by omega) (by rw [a3]; rfl)
    rw [u2_u2] at w
    exact w
  have s1 : ∀ σ', Bd L σ' c2 (rf_u2 N 4 ν 1) M → Bd L (rf_putP (rf_newK σ' 100 6) 4 ν 1 (some (100, σ'.1 100))) c3 (rf_u2 N 4 ν 2) M := fun σ' h' => by
    have w := B_ap (b := 100) (k := 6) (ab := 4) (ai := ν) (j := 1) h' (zl _ (by omega)) (fun _ => rfl) (i0_100 (by omega) (by omega)) (by omega) u2_at (Nat.le_refl _) (fun _ _ _ => by omega) (by rw [a2]; rfl)
    rw [u2_u2, ← e3] at w
    exact w
  have s0 : ∀ σ', Bd L σ' c1 (rf_u2 N 4 ν 0) M → Bd L (rf_putP (rf_newK σ' 100 6) 4 ν 0 (some (100, σ'.1 100))) c2 (rf_u2 N 4 ν 1) M := fun σ' h' => by
    have w := B_ap (b := 100) (k := 6) (ab := 4) (ai := ν) (j := 0) h' (zl _ (by omega)) (fun _ => rfl) (i0_100 (by omega) (by omega)) (by omega) u2_at (Nat.le_refl _) (fun _ _ _ => by omega) (by rw [a1]; rfl)
    rw [u2_u2, ← e2] at w
    exact w
  exact rf_goW rf_mo_0 rf_T_0 40 [] (And.intro ⟨by decide, by decide, by decide, by decide⟩ (And.intro ⟨by decide, by decide, by decide, by decide⟩ (And.intro ⟨by decide, by decide, by decide, by decide⟩ (s3 _ (s2 _ (s1 _ (s0 _ hb)))))))
theorem n_piece (h : Bd L σ c N M) (hc : c 0 = 1 + c 6) (hq : ∀ σ', Bd L σ' (fun b => c b + on b 6 + on b 0) N M → Q (.inl none) σ') : rf_C l 6 [.inr (.inr (some (6, σ.1 6)))] (rf_newK σ 6 5) Q := by
  have hb := B_ref (b := 6) (k := 5) h rfl (fun _ => rfl)
  rw [h.1 6]
  obtain ⟨ν, hν⟩ : ∃ ν, ν = c 6 := ⟨_, rfl⟩
  rw [← hν] at hc hb ⊢
  have hN : N 6 ν = 1000 := (h.2.2 6 ν (by omega)).1
  obtain ⟨c1, e1⟩ : ∃ c1, c1 = cad c 6 := ⟨_, rfl⟩
  rw [← e1] at hb
  have a0 : c1 0 = 1 + ν := by rw [e1, ← hc]; rfl
  have a6 : ν < cad c1 0 6 := by
    rw [e1, hν]
    exact cad_le cad_lt
  apply rf_C.ofW
  have zz : ∀ σ' j, Bd L σ' (cad c1 0) (rf_u2 N 6 ν 1) M → Bd L (rf_putI σ' 6 ν j 0) (cad c1 0) (rf_u2 N 6 ν 1) M := fun σ' j h' => B_put0 h' fun _ => rfl
  have s15 : ∀ σ', Bd L σ' (cad c1 0) (rf_u2 N 6 ν 1) M → rf_W l 6 15 [some (.inr (.inr (some (6, ν))))] [] σ' 1 5 Q := fun σ' h' => by
    have w := B_fN (b := 6) (i := ν) (zz _ 4 (zz _ 3 (zz _ 2 (zz _ 1 h')))) (fun j hj => by
      rw [u2_at] at hj
      show (if j = 0 then some (0, 1 + ν) else none) = none
      rw [if_neg (by omega)]) (fun j hj => by
      show (if j = 0 then some (0, 1 + ν) else none) = none
      rw [if_neg (by omega)])
    rw [u2_u2, u2_id hN] at w
    exact rf_goW rf_mo_6 rf_T_6 40 [] (And.intro (Or.inl rfl) (hq _ (B_c w fun b => by
      rw [e1]
      unfold cad
      omega)))
  have e0 : (rf_newK σ 6 5).1 0 = 1 + ν := (hb.1 0).trans a0
  refine rf_goW rf_mo_6 rf_T_6 40 [15] (And.intro ⟨by decide, by decide⟩ (And.intro ⟨by decide, by decide⟩ (n_box hb fun σ' h' => s15 _ ?_)))
  rw [e0]
  have w := B_putP (b := 6) (i := ν) (j := 0) (x := some (0, 1 + ν)) h' a6 u2_at (Nat.le_refl _) (fun _ _ _ => by omega) rfl
  rw [u2_u2] at w
  exact w
theorem n_cue (h : Bd L σ c N M) (hc : c 106 = c 1) (hc5 : c 5 = 4 * c 1) (hq : ∀ σ', Bd L σ' (fun b => c b + on b 1 + on b 106 + 4 * on b 5) N M → Q (.inl none) σ') : rf_C l 2 [.inr (.inr (some (1, σ.1 1)))] (rf_newK σ 1 4) Q := by
  have hb := B_ref (b := 1) (k := 4) h rfl (fun _ => rfl)
  rw [h.1 1]
  obtain ⟨ν, hν⟩ : ∃ ν, ν = c 1 := ⟨_, rfl⟩
  rw [← hν] at hc hc5 hb ⊢
  have hN : N 1 ν = 1000 := (h.2.2 1 ν (by omega)).1
  have hN' : N 106 ν = 1000 := (h.2.2 106 ν (by omega)).1
  obtain ⟨c1, e1⟩ : ∃ c1, c1 = cad c 1 := ⟨_, rfl⟩
  rw [← e1] at hb
  have a6 : c1 106 = ν := by rw [e1, ← hc]; rfl
  apply rf_C.ofW
  obtain ⟨cm, em⟩ : ∃ cm : Nat → Nat → Nat, cm = fun m b => c b + on b 1 + on b 106 + m * on b 5 := ⟨_, rfl⟩
  have m1 : ∀ m, ν < cm m 1 := fun m => by rw [em, hν]; show c 1 < c 1 + 1 + 0 + m * 0; omega
  have m6 : ∀ m, ν < cm m 106 := fun m => by rw [em]; show ν < c 106 + 0 + 1 + m * 0; omega
  have m5 : ∀ m, cm m 5 = 4 * ν + m := fun m => by rw [em, ← hc5]; show c 5 + 0 + 0 + m * 1 = c 5 + m; omega
  have lp : ∀ m i σ', i + m = 4 → Bd L σ' (cm i) (rf_u2 (rf_u2 N 1 ν 1) 106 ν i) M → rf_W l 2 29 [some (.inr (.inr (some (1, ν)))), some (.inl (Int32.ofNat i))] [] σ' (1 + i) (4 + 5 * i) Q := by
    intro m
    induction m with
    | zero =>
      intro i σ' hi h'
      obtain rfl : i = 4 := by omega
      have w := B_fN (b := 106) (i := ν) h' (fun j hj => by
        rw [u2_at] at hj
        show (if j < 4 then some (5, 4 * ν + j) else none) = none
        rw [if_neg (by omega)]) (fun j hj => by
        show (if j < 4 then some (5, 4 * ν + j) else none) = none
        rw [if_neg (by omega)])
      rw [u2_u2, u2_id (by rw [u2_ne (by omega)]; exact hN')] at w
      have w2 := B_fN (b := 1) (i := ν) w (fun j hj => by
        rw [u2_at] at hj
        show (if j = 0 then some (106, ν) else none) = none
        rw [if_neg (by omega)]) (fun j hj => by
        show (if j = 0 then some (106, ν) else none) = none
        rw [if_neg (by omega)])
      rw [u2_u2, u2_id hN, em] at w2
      exact rf_goW rf_mo_2 rf_T_2 40 [] (And.intro (fun _ => hq _ w2) (fun n => absurd (by decide) n))
    | succ m ih =>
      intro i σ' hi h'
      have lt : i < 4 := by omega
      have g1 : σ'.2.2.2.1 1 ν 0 = some (106, ν) := B_P h' (m1 i) (n := 1) (by rw [u2_ne (by omega), u2_at]) (by omega)
      have s38 : ∀ r, r = some (106, ν) → rf_W l 2 38 [some (.inr (.inr (some (1, ν)))), some (.inl (Int32.ofNat i))] [.inr (.inr r)] σ' (1 + i) (4 + 5 * i) Q := by
        rintro _ rfl
        refine rf_goW rf_mo_2 rf_T_2 40 [29] (And.intro ⟨?_, ?_⟩ (And.intro ⟨?_, ?_⟩ (n_move h' fun σ2 h2 => ?_)))
        · show 1 + i + 1 ≤ 5; omega
        · show 4 + 5 * i + 5 ≤ 24; omega
        · show 1 + i + 1 + 0 ≤ 5; omega
        · show 4 + 5 * i + 5 + 0 ≤ 24; omega
        · have gl : σ2.2.1 106 ν = 4 := B_l h2 (cad_le (m6 i))
          refine And.intro (nt_ix (by rw [gl]; exact lt) (by rw [gl]; decide)) ?_
          have w := B_putP (b := 106) (i := ν) (j := i) (x := some (5, 4 * ν + i)) h2 (cad_le (m6 i)) u2_at (Nat.le_refl _) (fun _ _ _ => by omega) (by
            show (if i < 4 then some (5, 4 * ν + i) else none) = _
            rw [if_pos lt])
          rw [u2_u2] at w
          have q := ih (i + 1) _ (by omega) (B_c w (c' := cm (i + 1)) fun b => by
            rw [em]
            show c b + on b 1 + on b 106 + i * on b 5 + on b 5 = c b + on b 1 + on b 106 + (i + 1) * on b 5
            rw [Nat.add_one_mul i]
            omega)
          rw [← nt_succ] at q
          rw [nt_cl (by omega), h'.1 5, m5]
          exact q
      refine rf_goW rf_mo_2 rf_T_2 40 [38] (And.intro (fun n => ?_) (fun _ => ?_))
      · exact absurd ((nt_le (i := 4) (n := i) (by decide) (by omega)).mp n) (by omega)
      · exact s38 _ g1
  have s12 : ∀ σ', Bd L σ' (cm 0) (rf_u2 (rf_u2 N 1 ν 1) 106 ν 0) M → rf_W l 2 12 [some (.inr (.inr (some (1, ν)))), none] [] σ' 1 4 Q := fun σ' h' => rf_goW rf_mo_2 rf_T_2 40 [29] (lp 4 0 _ (by omega) (B_put0 (B_put0 (B_put0 h' fun _ => rfl) fun _ => rfl) fun _ => rfl))
  refine rf_goW rf_mo_2 rf_T_2 40 [12] (And.intro ⟨by decide, by decide, by decide, by decide⟩ (s12 _ ?_))
  have w0 := B_ref (b := 106) (k := 4) hb rfl (fun _ => rfl)
  rw [a6] at w0
  have w := B_putP (b := 1) (i := ν) (j := 0) (x := some (106, ν)) w0 (by rw [e1, hν]; exact cad_le cad_lt) (n := 0) (by rw [u2_ne (by omega), u2_at]) (Nat.le_refl _) (fun _ _ _ => by omega) rfl
  rw [u2_sw (by omega), u2_u2] at w
  rw [hb.1 106, a6]
  refine B_c w fun b => ?_
  rw [e1, em]
  show c b + on b 1 + on b 106 = c b + on b 1 + on b 106 + 0 * on b 5
  omega
theorem n_journal (h : Bd L σ c N M) (c3 : c 3 = 0) (c105 : c 105 = 1) (c100 : c 100 = 6) (c1' : c 1 = 0) (c106 : c 106 = 0) (c5 : c 5 = 0) (hq : ∀ σ', Bd L σ' (fun b => c b + on b 3 + on b 105 + on b 100 + 40 * (on b 1 + on b 106 + 4 * on b 5)) N M → Q (.inl none) σ') : rf_C l 3 [.inr (.inr (some (3, σ.1 3)))] (rf_newK σ 3 4) Q := by
  have hb := B_ref (b := 3) (k := 4) h rfl (fun _ => rfl)
  rw [h.1 3]
  rw [c3] at hb ⊢
  have hN : N 3 0 = 1000 := (h.2.2 3 0 (by omega)).1
  have hN' : N 105 1 = 1000 := (h.2.2 105 1 (by omega)).1
  obtain ⟨c1, e1⟩ : ∃ c1, c1 = cad c 3 := ⟨_, rfl⟩
  obtain ⟨c2, e2⟩ : ∃ c1', c1' = cad c1 105 := ⟨_, rfl⟩
  rw [← e1] at hb
  have a1 : c1 105 = 1 := by rw [e1, ← c105]; rfl
  have a2 : c2 100 = 6 := by rw [e2, e1, ← c100]; rfl
  have a3 : 0 < c1 3 := by rw [e1]; show 0 < c 3 + 1; omega
  have a4 : 0 < c2 3 := by rw [e2]; exact cad_le a3
  apply rf_C.ofW
  obtain ⟨cm, em⟩ : ∃ cm : Nat → Nat → Nat, cm = fun m b => c b + on b 3 + on b 105 + on b 100 + m * (on b 1 + on b 106 + 4 * on b 5) := ⟨_, rfl⟩
  have m3 : ∀ m, 0 < cm m 3 := fun m => by rw [em]; show 0 < c 3 + 1 + 0 + 0 + m * 0; omega
  have m105 : ∀ m, 1 < cm m 105 := fun m => by rw [em]; show 1 < c 105 + 0 + 1 + 0 + m * 0; omega
  have m1 : ∀ m, cm m 1 = m := fun m => by rw [em]; show c 1 + 0 + 0 + 0 + m * 1 = m; omega
  have m106 : ∀ m, cm m 106 = m := fun m => by rw [em]; show c 106 + 0 + 0 + 0 + m * 1 = m; omega
  have m5 : ∀ m, cm m 5 = 4 * m := fun m => by rw [em]; show c 5 + 0 + 0 + 0 + m * 4 = 4 * m; omega
  have lp : ∀ m i σ', i + m = 40 → Bd L σ' (cm i) (rf_u2 (rf_u2 N 3 0 2) 105 1 i) M → rf_W l 3 33 [some (.inr (.inr (some (3, 0)))), some (.inl (Int32.ofNat i))] [] σ' (2 + 6 * i) (80 + 28 * i) Q := by
    intro m
    induction m with
    | zero =>
      intro i σ' hi h'
      obtain rfl : i = 40 := by omega
      have w := B_fN (b := 105) (i := 1) h' (fun j hj => by
        rw [u2_at] at hj
        show (if j < 40 then some (1, j) else none) = none
        rw [if_neg (by omega)]) (fun j hj => by
        show (if j < 40 then some (1, j) else none) = none
        rw [if_neg (by omega)])
      rw [u2_u2, u2_id (by rw [u2_ne (by omega)]; exact hN')] at w
      have z : ∀ j, 2 ≤ j → p0 3 0 j = none := fun j hj => by
        show rf_nth [(105, 1), (100, 6)] j = none
        rw [rf_nth_eq]
        exact List.getElem?_eq_none hj
      have w2 := B_fN (b := 3) (i := 0) w (fun j hj => z j (by rw [u2_at] at hj; exact hj)) (fun j hj => z j (by omega))
      rw [u2_u2, u2_id hN, em] at w2
      exact rf_goW rf_mo_3 rf_T_3 40 [] (And.intro (fun _ => hq _ w2) (fun n => absurd (by decide) n))
    | succ m ih =>
      intro i σ' hi h'
      have lt : i < 40 := by omega
      have g1 : σ'.2.2.2.1 3 0 0 = some (105, 1) := B_P h' (m3 i) (n := 2) (by rw [u2_ne (by omega), u2_at]) (by omega)
      have s43 : ∀ r, r = some (105, 1) → rf_W l 3 43 [some (.inr (.inr (some (3, 0)))), some (.inl (Int32.ofNat i))] [.inr (.inr r)] σ' (2 + 6 * i) (80 + 28 * i) Q := by
        rintro _ rfl
        refine rf_goW rf_mo_3 rf_T_3 40 [33] (And.intro ⟨?_, ?_⟩ (And.intro ⟨?_, ?_⟩ (n_cue h' (by rw [m106, m1]) (by rw [m5, m1]) fun σ2 h2 => ?_)))
        · show 2 + 6 * i + 1 ≤ 242; omega
        · show 80 + 28 * i + 4 ≤ 1200; omega
        · show 2 + 6 * i + 1 + 5 ≤ 242; omega
        · show 80 + 28 * i + 4 + 24 ≤ 1200; omega
        · have v105 : 1 < cm i 105 + on 105 1 + on 105 106 + 4 * on 105 5 := m105 i
          have gl : σ2.2.1 105 1 = 40 := B_l h2 v105
          refine And.intro (nt_ix (by rw [gl]; exact lt) (by rw [gl]; decide)) ?_
          have w := B_putP (b := 105) (i := 1) (j := i) (x := some (1, i)) h2 v105 u2_at (Nat.le_refl _) (fun _ _ _ => by omega) (by
            show (if i < 40 then some (1, i) else none) = _
            rw [if_pos lt])
          rw [u2_u2] at w
          have q := ih (i + 1) _ (by omega) (B_c w (c' := cm (i + 1)) fun b => by
            rw [em]
            show c b + on b 3 + on b 105 + on b 100 + i * (on b 1 + on b 106 + 4 * on b 5) + on b 1 + on b 106 + 4 * on b 5 = c b + on b 3 + on b 105 + on b 100 + (i + 1) * (on b 1 + on b 106 + 4 * on b 5)
            rw [Nat.add_one_mul i]
            omega)
          rw [← nt_succ] at q
          rw [nt_cl (by omega), h'.1 1, m1]
          exact q
      refine rf_goW rf_mo_3 rf_T_3 40 [43] (And.intro (fun n => ?_) (fun _ => ?_))
      · exact absurd ((nt_le (i := 40) (n := i) (by decide) (by omega)).mp n) (by omega)
      · exact s43 _ g1
  have s21 : ∀ σ', Bd L σ' (cm 0) (rf_u2 (rf_u2 N 3 0 2) 105 1 0) M → rf_W l 3 21 [some (.inr (.inr (some (3, 0)))), none] [] σ' 2 80 Q := fun σ' h' => rf_goW rf_mo_3 rf_T_3 40 [33] (lp 40 0 _ (by omega) (B_put0 (B_put0 h' fun _ => rfl) fun _ => rfl))
  have s13 : ∀ σ', Bd L σ' c2 (rf_u2 (rf_u2 N 105 1 0) 3 0 1) M → rf_W l 3 13 [some (.inr (.inr (some (3, 0)))), none] [] σ' 1 40 Q := fun σ' h' => by
    refine rf_goW rf_mo_3 rf_T_3 40 [21] (And.intro ⟨by decide, by decide, by decide, by decide⟩ (s21 _ ?_))
    have w := B_ap (b := 100) (k := 40) (ab := 3) (ai := 0) (j := 1) h' (by rw [a2]; rfl) (fun _ => rfl) (i0_100 (by omega) (by omega)) a4 u2_at (Nat.le_refl _) (fun _ _ _ => by omega) (by rw [a2]; rfl)
    rw [u2_u2, u2_sw (by omega)] at w
    refine B_c w fun b => ?_
    rw [e2, e1, em]
    show c b + on b 3 + on b 105 + on b 100 = c b + on b 3 + on b 105 + on b 100 + 0 * (on b 1 + on b 106 + 4 * on b 5)
    omega
  refine rf_goW rf_mo_3 rf_T_3 40 [13] (And.intro ⟨by decide, by decide, by decide, by decide⟩ (s13 _ ?_))
  have w0 := B_ref (b := 105) (k := 40) hb (by rw [a1]; rfl) (fun _ => rfl)
  rw [a1, ← e2] at w0
  have w := B_putP (b := 3) (i := 0) (j := 0) (x := some (105, 1)) w0 a4 (n := 0) (by rw [u2_ne (by omega), u2_at]) (Nat.le_refl _) (fun _ _ _ => by omega) rfl
  rw [u2_sw (by omega), u2_u2, u2_sw (by omega)] at w
  rw [hb.1 105, a1]
  exact w
end CN
