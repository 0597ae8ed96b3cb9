/-! the calls side by side: drives' small calls, questions -/
section PB
variable {l : Launch} {L : Nat} {I M I' M' : Nat → Nat → Nat → Int32} {J : Nat → Nat → Nat → Int64}
theorem f9 {f : Nat} (h : f < 9) : f = 0 ∨ f = 1 ∨ f = 2 ∨ f = 3 ∨ f = 4 ∨ f = 5 ∨ f = 6 ∨ f = 7 ∨ f = 8 := by omega
theorem p_cell {h v : Int32} (hR : Rel I I) : rf_C l 137 [dk, .inl h, .inl v] (sS L I J) (tpN l L I 138 [mo, .inl h, .inl v]) := by
  refine e_cell (c_cell (fun a1 => ?_) (fun a1 a2 => ?_) (fun a1 a2 => ?_))
  · exact ⟨1, I, J, rfl, rfl, rfl, fun Q' q => d_cell (fun _ => q _ (Rel_th hR) th_200 thI_0) (fun a _ => absurd a a1) (fun a _ => absurd a a1)⟩
  · exact ⟨2, I, J, rfl, rfl, rfl, fun Q' q => d_cell (fun a => absurd a1 a) (fun _ _ => q _ (Rel_th hR) th_200 thI_0) (fun _ a => absurd a2 a)⟩
  · refine ⟨0, _, J, rfl, rfl, u3_b (by decide), fun Q' q => d_cell (fun a => absurd a1 a) (fun _ a => absurd a a2) (fun _ _ => ?_)⟩
    have s3 : nn h < 12 := a1.2
    have e : ∀ b i, ¬ (b = 2 ∨ (b = 100 ∧ i = 16) ∨ b = 8) → (rf_u3 (thI (rf_u3 I 2 (nn h) 8 v) 0) 100 16 (nn h) v) b i = I b i := by
      intro b i h
      funext f
      simp only [rf_u3, thI]
      repeat (first | rw [if_neg (by omega)] | rfl)
    have e31 : (rf_u3 (thI (rf_u3 I 2 (nn h) 8 v) 0) 100 16 (nn h) v) 8 0 31 = I 8 0 31 := by simp [rf_u3, thI]
    have e32 : (rf_u3 (thI (rf_u3 I 2 (nn h) 8 v) 0) 100 16 (nn h) v) 8 0 32 = I 8 0 32 := by simp [rf_u3, thI]
    have e0 : (rf_u3 (thI (rf_u3 I 2 (nn h) 8 v) 0) 100 16 (nn h) v) 8 0 0 = 0 := by simp [rf_u3, thI]
    refine q _ ?_ (funext fun i => e 200 i (by omega)) e0
    refine ⟨⟨?_, RB_fr hR.1.2.1 (fun p _ => e 0 (1 + p) (by omega)) (fun k _ _ => e 100 k (by omega)), RP_fr hR.1.2.2.1 (funext fun i => e 6 i (by omega)) (e 100 25 (by omega)) (e 100 26 (by omega)) (e 101 3 (by omega)), RM_fr hR.1.2.2.2.1 (e 100 0 (by omega)) (e 100 1 (by omega)) (e 100 23 (by omega)) (e 100 24 (by omega)), RC_fr hR.1.2.2.2.2.1 (fun c _ => e 1 (40 + c) (by omega)) (fun c _ m _ => e 5 (4 * (40 + c) + m) (by omega)) hR.2.2.2.2.1 (fun k _ _ => e 100 k (by omega)), RG_fr hR.1.2.2.2.2.2.1 (e 100 2 (by omega)) (fun k _ _ => e 100 k (by omega)) (fun c _ hb => by rw [e 100 27 (by omega)] at hb; exact hb), RH_fr hR.1.2.2.2.2.2.2.1 (e 101 0 (by omega)) (e 101 4 (by omega)), RJ_fr hR.1.2.2.2.2.2.2.2 (funext fun i => e 3 i (by omega)) (congrFun (e 7 0 (by omega)) 11) (fun k _ => e 1 k (by omega)) (fun k _ => e 5 k (by omega)) (e 100 6 (by omega)) hR.2.2.2.2.2.2.2 e31 e32 (e 100 36 (by omega)) (e 100 37 (by omega))⟩, ?_, VP_fr hR.2.2.1 (e 100 23 (by omega)) (e 100 24 (by omega)) (e 100 25 (by omega)) (e 101 3 (by omega)) (e 100 10 (by omega)), VB_fr hR.2.2.2.1 (fun k _ _ => e 100 k (by omega)), VC_fr hR.2.2.2.2.1 (fun k _ _ => e 100 k (by omega)), VA_fr hR.2.2.2.2.2.1 (fun k _ _ => e 100 k (by omega)) (e 100 23 (by omega)) (e 100 24 (by omega)) (e 100 25 (by omega)) (e 101 3 (by omega)) (fun c _ hb => by rw [e 100 27 (by omega)] at hb; exact hb), VS_fr hR.2.2.2.2.2.2.1 (fun k _ _ => e 100 k (by omega)) (e 100 24 (by omega)) (fun c _ hb => by rw [e 100 27 (by omega)]; exact hb), VJ_fr hR.2.2.2.2.2.2.2 (funext fun i => e 3 i (by omega)) (fun k _ => e 1 k (by omega)) (e 100 6 (by omega)) e31 (e 100 36 (by omega)) (e 100 37 (by omega))⟩
    · have aux : ∀ f, I 2 (nn h) f = mD I (nn h) f ∨ 9 ≤ f := fun f => by
        by_cases z : f < 9
        · exact Or.inl (hR.1.1 (nn h) s3 f z)
        · exact Or.inr (by omega)
      intro t ht f hf
      have := hR.1.1 t ht f hf
      by_cases q : t = nn h
      · subst q
        rcases f9 hf with rfl | rfl | rfl | rfl | rfl | rfl | rfl | rfl | rfl <;> simp [mD, rf_u3, thI] <;> exact this
      · rcases f9 hf with rfl | rfl | rfl | rfl | rfl | rfl | rfl | rfl | rfl <;> simp [mD, rf_u3, thI, q] <;> exact this
    · intro t ht
      obtain ⟨g1, g2, g3⟩ := hR.2.1 t ht
      unfold mdOk
      rw [e 100 10 (by omega), e 100 11 (by omega), e 100 12 (by omega), e 100 14 (by omega), e 101 1 (by omega), e 101 3 (by omega)]
      refine ⟨g1, ?_, g3⟩
      by_cases q : t = nn h
      · subst q
        have : (rf_u3 (thI (rf_u3 I 2 (nn h) 8 v) 0) 100 16 (nn h) v) 100 16 (nn h) = v := by simp [rf_u3]
        rw [this]
        by_cases z : v = -1
        · exact Or.inl z
        · refine Or.inr ?_
          rw [Int32.lt_iff_toInt_lt] at a2
          rw [Int32.le_iff_toInt_le]
          have y1 : (-1 : Int32).toInt = -1 := rfl
          have z0 : (0 : Int32).toInt = 0 := rfl
          have : ¬ v.toInt = -1 := fun w => z (by rw [← Int32.toInt_inj, w, y1])
          omega
      · have : (rf_u3 (thI (rf_u3 I 2 (nn h) 8 v) 0) 100 16 (nn h) v) 100 16 t = I 100 16 t := by simp [rf_u3, thI, q]
        rw [this]
        exact g2
theorem p_lose {h v : Int32} (hR : Rel I I) : rf_C l 140 [dk, .inl h, .inl v] (sS L I J) (tpN l L I 141 [mo, .inl h, .inl v]) := by
  refine e_lose (c_lose (fun a1 => ?_) (fun a1 a2 => ?_) (fun a1 a2 => ?_))
  · exact ⟨1, I, J, rfl, rfl, rfl, fun Q' q => d_lose (fun _ => q _ (Rel_th hR) th_200 thI_0) (fun a _ => absurd a a1) (fun a _ => absurd a a1)⟩
  · exact ⟨2, I, J, rfl, rfl, rfl, fun Q' q => d_lose (fun a => absurd a1 a) (fun _ _ => q _ (Rel_th hR) th_200 thI_0) (fun _ a => absurd a a2)⟩
  · refine ⟨0, _, J, rfl, rfl, u3_b (by decide), fun Q' q => d_lose (fun a => absurd a1 a) (fun _ a => absurd a2 a) (fun _ _ => ?_)⟩
    have s3 : nn h < 12 := a1.2
    have e : ∀ b i, ¬ (b = 2 ∨ (b = 100 ∧ i = 15) ∨ b = 8) → (rf_u3 (thI (rf_u3 I 2 (nn h) 7 v) 0) 100 15 (nn h) v) b i = I b i := by
      intro b i h
      funext f
      simp only [rf_u3, thI]
      repeat (first | rw [if_neg (by omega)] | rfl)
    have e31 : (rf_u3 (thI (rf_u3 I 2 (nn h) 7 v) 0) 100 15 (nn h) v) 8 0 31 = I 8 0 31 := by simp [rf_u3, thI]
    have e32 : (rf_u3 (thI (rf_u3 I 2 (nn h) 7 v) 0) 100 15 (nn h) v) 8 0 32 = I 8 0 32 := by simp [rf_u3, thI]
    have e0 : (rf_u3 (thI (rf_u3 I 2 (nn h) 7 v) 0) 100 15 (nn h) v) 8 0 0 = 0 := by simp [rf_u3, thI]
    refine q _ ?_ (funext fun i => e 200 i (by omega)) e0
    refine ⟨⟨?_, RB_fr hR.1.2.1 (fun p _ => e 0 (1 + p) (by omega)) (fun k _ _ => e 100 k (by omega)), RP_fr hR.1.2.2.1 (funext fun i => e 6 i (by omega)) (e 100 25 (by omega)) (e 100 26 (by omega)) (e 101 3 (by omega)), RM_fr hR.1.2.2.2.1 (e 100 0 (by omega)) (e 100 1 (by omega)) (e 100 23 (by omega)) (e 100 24 (by omega)), RC_fr hR.1.2.2.2.2.1 (fun c _ => e 1 (40 + c) (by omega)) (fun c _ m _ => e 5 (4 * (40 + c) + m) (by omega)) hR.2.2.2.2.1 (fun k _ _ => e 100 k (by omega)), RG_fr hR.1.2.2.2.2.2.1 (e 100 2 (by omega)) (fun k _ _ => e 100 k (by omega)) (fun c _ hb => by rw [e 100 27 (by omega)] at hb; exact hb), RH_fr hR.1.2.2.2.2.2.2.1 (e 101 0 (by omega)) (e 101 4 (by omega)), RJ_fr hR.1.2.2.2.2.2.2.2 (funext fun i => e 3 i (by omega)) (congrFun (e 7 0 (by omega)) 11) (fun k _ => e 1 k (by omega)) (fun k _ => e 5 k (by omega)) (e 100 6 (by omega)) hR.2.2.2.2.2.2.2 e31 e32 (e 100 36 (by omega)) (e 100 37 (by omega))⟩, VD_fr hR.2.1 (e 100 10 (by omega)) (e 100 11 (by omega)) (e 100 12 (by omega)) (e 100 14 (by omega)) (e 100 16 (by omega)) (e 101 1 (by omega)) (e 101 3 (by omega)), VP_fr hR.2.2.1 (e 100 23 (by omega)) (e 100 24 (by omega)) (e 100 25 (by omega)) (e 101 3 (by omega)) (e 100 10 (by omega)), VB_fr hR.2.2.2.1 (fun k _ _ => e 100 k (by omega)), VC_fr hR.2.2.2.2.1 (fun k _ _ => e 100 k (by omega)), VA_fr hR.2.2.2.2.2.1 (fun k _ _ => e 100 k (by omega)) (e 100 23 (by omega)) (e 100 24 (by omega)) (e 100 25 (by omega)) (e 101 3 (by omega)) (fun c _ hb => by rw [e 100 27 (by omega)] at hb; exact hb), VS_fr hR.2.2.2.2.2.2.1 (fun k _ _ => e 100 k (by omega)) (e 100 24 (by omega)) (fun c _ hb => by rw [e 100 27 (by omega)]; exact hb), VJ_fr hR.2.2.2.2.2.2.2 (funext fun i => e 3 i (by omega)) (fun k _ => e 1 k (by omega)) (e 100 6 (by omega)) e31 (e 100 36 (by omega)) (e 100 37 (by omega))⟩
    · have aux := s3
      intro t ht f hf
      have := hR.1.1 t ht f hf
      by_cases q : t = nn h
      · subst q
        rcases f9 hf with rfl | rfl | rfl | rfl | rfl | rfl | rfl | rfl | rfl <;> simp [mD, rf_u3, thI] <;> exact this
      · rcases f9 hf with rfl | rfl | rfl | rfl | rfl | rfl | rfl | rfl | rfl <;> simp [mD, rf_u3, thI, q] <;> exact this
theorem p_stick {h v : Int32} (hx : v = 0 ∨ v = 1) (hR : Rel I I) : rf_C l 143 [dk, .inl h, .inl v] (sS L I J) (tpN l L I 144 [mo, .inl h, .inl v]) := by
  refine e_stick (c_stick hx (fun a1 => ?_) (fun a1 => ?_))
  · exact ⟨1, I, J, rfl, rfl, rfl, fun Q' q => d_stick hx (fun _ => q _ (Rel_th hR) th_200 thI_0) (fun a => absurd a a1)⟩
  · refine ⟨0, _, J, rfl, rfl, u3_b (by decide), fun Q' q => d_stick hx (fun a => absurd a1 a) (fun _ => ?_)⟩
    have s3 : nn h < 12 := a1.2
    have e : ∀ b i, ¬ (b = 2 ∨ (b = 101 ∧ i = 2) ∨ b = 8) → (rf_u3 (thI (rf_u3 I 2 (nn h) 6 v) 0) 101 2 (nn h) v) b i = I b i := by
      intro b i h
      funext f
      simp only [rf_u3, thI]
      repeat (first | rw [if_neg (by omega)] | rfl)
    have e31 : (rf_u3 (thI (rf_u3 I 2 (nn h) 6 v) 0) 101 2 (nn h) v) 8 0 31 = I 8 0 31 := by simp [rf_u3, thI]
    have e32 : (rf_u3 (thI (rf_u3 I 2 (nn h) 6 v) 0) 101 2 (nn h) v) 8 0 32 = I 8 0 32 := by simp [rf_u3, thI]
    have e0 : (rf_u3 (thI (rf_u3 I 2 (nn h) 6 v) 0) 101 2 (nn h) v) 8 0 0 = 0 := by simp [rf_u3, thI]
    refine q _ ?_ (funext fun i => e 200 i (by omega)) e0
    refine ⟨⟨?_, RB_fr hR.1.2.1 (fun p _ => e 0 (1 + p) (by omega)) (fun k _ _ => e 100 k (by omega)), RP_fr hR.1.2.2.1 (funext fun i => e 6 i (by omega)) (e 100 25 (by omega)) (e 100 26 (by omega)) (e 101 3 (by omega)), RM_fr hR.1.2.2.2.1 (e 100 0 (by omega)) (e 100 1 (by omega)) (e 100 23 (by omega)) (e 100 24 (by omega)), RC_fr hR.1.2.2.2.2.1 (fun c _ => e 1 (40 + c) (by omega)) (fun c _ m _ => e 5 (4 * (40 + c) + m) (by omega)) hR.2.2.2.2.1 (fun k _ _ => e 100 k (by omega)), RG_fr hR.1.2.2.2.2.2.1 (e 100 2 (by omega)) (fun k _ _ => e 100 k (by omega)) (fun c _ hb => by rw [e 100 27 (by omega)] at hb; exact hb), RH_fr hR.1.2.2.2.2.2.2.1 (e 101 0 (by omega)) (e 101 4 (by omega)), RJ_fr hR.1.2.2.2.2.2.2.2 (funext fun i => e 3 i (by omega)) (congrFun (e 7 0 (by omega)) 11) (fun k _ => e 1 k (by omega)) (fun k _ => e 5 k (by omega)) (e 100 6 (by omega)) hR.2.2.2.2.2.2.2 e31 e32 (e 100 36 (by omega)) (e 100 37 (by omega))⟩, VD_fr hR.2.1 (e 100 10 (by omega)) (e 100 11 (by omega)) (e 100 12 (by omega)) (e 100 14 (by omega)) (e 100 16 (by omega)) (e 101 1 (by omega)) (e 101 3 (by omega)), VP_fr hR.2.2.1 (e 100 23 (by omega)) (e 100 24 (by omega)) (e 100 25 (by omega)) (e 101 3 (by omega)) (e 100 10 (by omega)), VB_fr hR.2.2.2.1 (fun k _ _ => e 100 k (by omega)), VC_fr hR.2.2.2.2.1 (fun k _ _ => e 100 k (by omega)), VA_fr hR.2.2.2.2.2.1 (fun k _ _ => e 100 k (by omega)) (e 100 23 (by omega)) (e 100 24 (by omega)) (e 100 25 (by omega)) (e 101 3 (by omega)) (fun c _ hb => by rw [e 100 27 (by omega)] at hb; exact hb), VS_fr hR.2.2.2.2.2.2.1 (fun k _ _ => e 100 k (by omega)) (e 100 24 (by omega)) (fun c _ hb => by rw [e 100 27 (by omega)]; exact hb), VJ_fr hR.2.2.2.2.2.2.2 (funext fun i => e 3 i (by omega)) (fun k _ => e 1 k (by omega)) (e 100 6 (by omega)) e31 (e 100 36 (by omega)) (e 100 37 (by omega))⟩
    · have aux := s3
      intro t ht f hf
      have := hR.1.1 t ht f hf
      by_cases q : t = nn h
      · subst q
        rcases f9 hf with rfl | rfl | rfl | rfl | rfl | rfl | rfl | rfl | rfl <;> simp [mD, rf_u3, thI] <;> exact this
      · rcases f9 hf with rfl | rfl | rfl | rfl | rfl | rfl | rfl | rfl | rfl <;> simp [mD, rf_u3, thI, q] <;> exact this
theorem p_version (hR : Rel I I) : rf_C l 163 [dk] (sS L I J) (tpQ l L I 164 [mo]) := by
  refine c_version ⟨_, I, J, rfl, rfl, rfl, fun Q' q => d_version ?_⟩
  rw [hR.1.2.2.2.2.2.2.2.2.1] at q
  exact q _ (Rel_th hR) th_200
theorem p_cue {c w : Int32} (hR : Rel I I) : rf_C l 152 [dk, .inl c, .inl w] (sS L I J) (tpQ l L I 153 [mo, .inl c, .inl w]) := by
  refine c_cue (fun a1 => ⟨_, I, J, rfl, rfl, rfl, fun Q' q => d_cue (fun _ => q _ (Rel_th hR) th_200) (fun a => absurd a a1)⟩) (fun a1 => ⟨_, I, J, rfl, rfl, rfl, fun Q' q => d_cue (fun a => absurd a1 a) (fun _ => ?_)⟩)
  obtain ⟨g1, g2, g3, _⟩ := hR.1.2.2.2.2.1 (nn c) a1.2
  rw [g1, g2, g3] at q
  exact q _ (Rel_th hR) th_200
theorem p_moveOf {c m w : Int32} (hR : Rel I I) : rf_C l 154 [dk, .inl c, .inl m, .inl w] (sS L I J) (tpQ l L I 155 [mo, .inl c, .inl m, .inl w]) := by
  have hn : ∀ c, c < 8 → ok (I 100 29 c) 5 := fun c hc => (hR.2.2.2.2.1 c hc).2.1
  have hn' : ∀ c, c < 8 → ok (I 1 (40 + c) 1) 5 := fun c hc => by rw [(hR.1.2.2.2.2.1 c hc).2.2.1]; exact hn c hc
  have en : ∀ c, c < 8 → I 1 (40 + c) 1 = I 100 29 c := fun c hc => (hR.1.2.2.2.2.1 c hc).2.2.1
  refine c_moveOf hn' (fun a1 => ?_) (fun a1 a2 => ?_)
  · refine ⟨_, I, J, rfl, rfl, rfl, fun Q' q => d_moveOf hn (fun _ => q _ (Rel_th hR) th_200) (fun a b => absurd ?_ a1)⟩
    rw [en (nn c) a.2]
    exact ⟨a, b⟩
  · refine ⟨_, I, J, rfl, rfl, rfl, fun Q' q => d_moveOf hn (fun a => absurd ⟨a1, by rw [← en (nn c) a1.2]; exact a2⟩ a) (fun _ _ => ?_)⟩
    rw [en (nn c) a1.2] at a2
    have g := (hR.1.2.2.2.2.1 (nn c) a1.2).2.2.2 (nn m) a2.2
    have ev : moV (I 5 (4 * (40 + nn c) + nn m)) w = moV (mR I (4 * nn c + nn m)) w := by
      unfold moV
      rw [g 0 (by decide), g 1 (by decide), g 2 (by decide), g 3 (by decide), g 4 (by decide)]
      rfl
    rw [ev] at q
    exact q _ (Rel_th hR) th_200
/-- lowest and highest drive of a piece that has one -/
theorem low_eq {r a : Nat → Int32} {p : Int32} : ∀ n, (∀ i, i < n → r i = p → pl (a i)) → ((∀ i, i < n → ¬ r i = p) ∧ lowF r a p n = 400 ∧ lowG r a p n = 1000 ∧ hghF r a p n = 0 ∧ hghG r a p n = -1) ∨ (lowF r a p n = lowG r a p n ∧ hghF r a p n = hghG r a p n ∧ (∃ i, i < n ∧ r i = p ∧ a i = lowG r a p n) ∧ (∃ i, i < n ∧ r i = p ∧ a i = hghG r a p n) ∧ ∀ i, i < n → r i = p → lowG r a p n ≤ a i ∧ a i ≤ hghG r a p n)
  | 0, _ => Or.inl ⟨fun _ h => absurd h (by omega), rfl, rfl, rfl, rfl⟩
  | n + 1, h => by
    have ih := low_eq (r := r) (a := a) (p := p) n (fun i hi => h i (by omega))
    rw [lowF, lowG, hghF, hghG]
    by_cases e : r n = p
    · rw [if_pos e, if_pos e, if_pos e, if_pos e]
      have pn := h n (by omega) e
      refine Or.inr ?_
      rcases ih with ⟨g0, g1, g2, g3, g4⟩ | ⟨g1, g2, ⟨i3, g3, g3', g3''⟩, ⟨i4, g4, g4', g4''⟩, g5⟩
      · rw [g1, g2, g3, g4]
        have l1 : mn 400 (a n) = a n := by
          unfold mn
          split
          · rfl
          · next q => exact Int32.le_antisymm (i_nlt.mp q) pn.2
        have l2 : ¬ (1000 : Int32) ≤ a n := fun q => absurd (Int32.le_trans q pn.2) (by decide)
        have l3 : mx 0 (a n) = a n := by
          unfold mx
          split
          · rfl
          · next q => exact Int32.le_antisymm pn.1 (i_nlt.mp q)
        have l4 : ¬ a n ≤ (-1 : Int32) := fun q => absurd (Int32.le_trans pn.1 q) (by decide)
        rw [l1, if_neg l2, l3, if_neg l4]
        refine ⟨rfl, rfl, ⟨n, by omega, e, rfl⟩, ⟨n, by omega, e, rfl⟩, fun i hi q => ?_⟩
        by_cases z : i = n
        · subst z; exact ⟨Int32.le_refl _, Int32.le_refl _⟩
        · exact absurd q (g0 i (by omega))
      · rw [g1, g2]
        have l1 : mn (lowG r a p n) (a n) = if lowG r a p n ≤ a n then lowG r a p n else a n := by
          unfold mn
          by_cases q : a n < lowG r a p n
          · rw [if_pos q, if_neg (i_nle.mpr q)]
          · rw [if_neg q, if_pos (i_nlt.mp q)]
        have l3 : mx (hghG r a p n) (a n) = if a n ≤ hghG r a p n then hghG r a p n else a n := by
          unfold mx
          by_cases q : hghG r a p n < a n
          · rw [if_pos q, if_neg (i_nle.mpr q)]
          · rw [if_neg q, if_pos (i_nlt.mp q)]
        rw [l1, l3]
        refine ⟨rfl, rfl, ?_, ?_, fun i hi q => ⟨?_, ?_⟩⟩
        · by_cases q : lowG r a p n ≤ a n
          · rw [if_pos q]; exact ⟨i3, by omega, g3', g3''⟩
          · rw [if_neg q]; exact ⟨n, by omega, e, rfl⟩
        · by_cases q : a n ≤ hghG r a p n
          · rw [if_pos q]; exact ⟨i4, by omega, g4', g4''⟩
          · rw [if_neg q]; exact ⟨n, by omega, e, rfl⟩
        · by_cases z : i = n
          · subst z
            split
            · assumption
            · exact Int32.le_refl _
          · have := (g5 i (by omega) q).1
            split
            · exact this
            · next w => exact Int32.le_trans (Int32.le_of_lt (i_nle.mp w)) this
        · by_cases z : i = n
          · subst z
            split
            · assumption
            · exact Int32.le_refl _
          · have := (g5 i (by omega) q).2
            split
            · exact this
            · next w => exact Int32.le_trans this (Int32.le_of_lt (i_nle.mp w))
    · rw [if_neg e, if_neg e, if_neg e, if_neg e]
      rcases ih with ⟨g0, g1⟩ | ⟨g1, g2, ⟨i3, g3, g3'⟩, ⟨i4, g4, g4'⟩, g5⟩
      · refine Or.inl ⟨fun i hi => ?_, g1⟩
        by_cases z : i = n
        · rw [z]; exact e
        · exact g0 i (by omega)
      · refine Or.inr ⟨g1, g2, ⟨i3, by omega, g3'⟩, ⟨i4, by omega, g4'⟩, fun i hi q => ?_⟩
        by_cases z : i = n
        · rw [z] at q; exact absurd q e
        · exact g5 i (by omega) q
end PB
