/-! an edit is kept: the ring and the row -/
section PI
variable {I M I' M' : Nat → Nat → Nat → Int32} {c : Nat}
theorem jrI_b {x : Int32} {b : Nat} (h : ¬ b = 3) (h' : ¬ b = 100) : jrI I x b = I b := by rw [jrI, u3_b h', u3_b h, u3_b h]
theorem rmm_1 {i f : Nat} : remI I c 1 i f = if i = jrL I ∧ (f = 1 ∨ f = 2) then I 1 (40 + c) f else I 1 i f := by
  rw [remI, u3_b (by decide), tkp, jrI_b (by decide) (by decide)]
  by_cases h : i = jrL I ∧ (f = 1 ∨ f = 2)
  · rw [if_pos ⟨rfl, h⟩, if_pos h]
  · rw [if_neg (fun q => h q.2), if_neg (fun q => absurd q.1 (by decide)), if_neg h]
theorem rmm_5 {i f : Nat} : remI I c 5 i f = if (4 * jrL I ≤ i ∧ i < 4 * jrL I + nn (I 1 (40 + c) 1)) ∧ f < 5 then I 5 (4 * (40 + c) + (i - 4 * jrL I)) f else I 5 i f := by
  rw [remI, u3_b (by decide), tkp, jrI_b (by decide) (by decide), if_neg (fun q => absurd q.1 (by decide))]
  by_cases h : (4 * jrL I ≤ i ∧ i < 4 * jrL I + nn (I 1 (40 + c) 1)) ∧ f < 5
  · rw [if_pos ⟨rfl, h.1.1, h.1.2, h.2⟩, if_pos h, jrI_b (by decide) (by decide)]
  · rw [if_neg (fun q => h ⟨⟨q.2.1, q.2.2.1⟩, q.2.2.2⟩), if_neg h, jrI_b (by decide) (by decide)]
theorem tkp_b {c d n b : Nat} (h : ¬ b = 1) (h' : ¬ b = 5) : tkp I c d n b = I b := by
  funext i f
  rw [tkp, if_neg (fun q => h q.1), if_neg (fun q => h' q.1)]
theorem rmm_o {b i : Nat} (h : ¬ (b = 1 ∨ b = 5 ∨ b = 3 ∨ b = 7 ∨ (b = 100 ∧ i = 6))) : remI I c b i = I b i := by
  rw [remI, u3_b (by omega), tkp_b (by omega) (by omega)]
  funext f
  rw [jrI, rf_u3, if_neg (by omega), u3_b (by omega), u3_b (by omega)]
theorem rmm_32 : remI I c 3 0 2 = Int32.ofNat (jrL I) := by
  rw [remI, u3_b (by decide), tkp_b (by decide) (by decide)]
  simp [jrI, rf_u3]
theorem rmm_33 : remI I c 3 0 3 = Int32.ofNat (min (nn (I 3 0 3) + 1) 40) := by
  rw [remI, u3_b (by decide), tkp_b (by decide) (by decide)]
  simp [jrI, rf_u3]
theorem rmm_7 : remI I c 7 0 11 = I 7 0 11 + 1 := by simp [remI, rf_u3]
theorem rmm_6 : remI I c 100 6 = uf (I 100 6) (jrL I) (Int32.ofNat c) := by
  rw [remI, u3_b (by decide), tkp_b (by decide) (by decide)]
  funext f
  simp [jrI, rf_u3, uf]
theorem kpI_8 {f : Nat} (h : ¬ f = 31) (h' : ¬ f = 32) : kpI M c 8 0 f = M 8 0 f := by
  rw [kpI, u3_f h' 0, kpS_8 h]
theorem kpI_31 : kpI M c 8 0 31 = Int32.ofNat (keE M + 1) := by
  rw [kpI, u3_f (by decide) 0, kpS_x]
theorem kpI_32 : kpI M c 8 0 32 = M 8 0 32 + 1 := by simp [kpI, rf_u3]
theorem kpI_36 : kpI M c 100 36 = kpR (keR M) (keE M) (M 100 28 c) (M 100 29 c) (mP M c) 4 := by rw [kpI, u3_b (by decide), kpS_a]
theorem kpI_37 : kpI M c 100 37 = uf (kcR M) (keE M) (Int32.ofNat c) := by rw [kpI, u3_b (by decide), kpS_b]
theorem kpI_k {b i : Nat} (h : ¬ (b = 8 ∨ (b = 100 ∧ (i = 36 ∨ i = 37)))) : kpI M c b i = M b i := by
  rw [kpI, u3_b (by omega), kpS, u3_b (by omega), ro_ne (by omega), ro_ne (by omega)]
theorem keep_J (h : RJ I M) (v : VJ I M) (r : RC I M) (vc : VC M) (hc : c < 8) : RJ (remI I c) (kpI M c) ∧ VJ (remI I c) (kpI M c) := by
  obtain ⟨h1, h2, h3⟩ := h
  obtain ⟨v1, v2, v3, v4⟩ := v
  obtain ⟨_, r2, r3, r4⟩ := r c hc
  obtain ⟨s1, s2, s3⟩ := vc c hc
  have lat : nn (I 3 0 2) < 40 := v1.2
  have cnt : nn (M 8 0 31) < 41 := v2.2
  have n5 : nn (M 100 29 c) < 5 := s2.2
  obtain ⟨E, hE⟩ : ∃ E, E = keE M := ⟨_, rfl⟩
  have hE' : (nn (M 8 0 31) = 40 ∧ E = 39) ∨ (nn (M 8 0 31) < 40 ∧ E = nn (M 8 0 31)) := by
    rw [hE, keE]
    split
    · next q => exact Or.inl ⟨q, rfl⟩
    · next q => exact Or.inr ⟨by omega, rfl⟩
  obtain ⟨j, hj⟩ : ∃ j, j = jrL I := ⟨_, rfl⟩
  have hj' : j = (nn (I 3 0 2) + 1) % 40 := by rw [hj, jrL]
  have j40 : j < 40 := by omega
  have c31 : nn (kpI M c 8 0 31) = E + 1 := by rw [kpI_31, ← hE]; exact nn_nat (by omega)
  have c32 : nn (remI I c 3 0 2) = j := by rw [rmm_32, ← hj]; exact nn_nat (by omega)
  have jp : ∀ k, jpo (remI I c) (kpI M c) k = (j + 41 + k - (E + 1)) % 40 := fun k => by rw [jpo, c31, c32]
  -- the old number of an entry
  obtain ⟨o, ho⟩ : ∃ o : Nat → Nat, o = fun k => if nn (M 8 0 31) = 40 then k + 1 else k := ⟨_, rfl⟩
  have o1 : ∀ k, k < E → o k < nn (M 8 0 31) ∧ (j + 41 + k - (E + 1)) % 40 = jpo I M (o k) ∧ ¬ (j + 41 + k - (E + 1)) % 40 = j := by
    intro k hk
    have eo : (nn (M 8 0 31) = 40 ∧ o k = k + 1) ∨ (nn (M 8 0 31) < 40 ∧ o k = k) := by
      rw [ho]
      by_cases q : nn (M 8 0 31) = 40
      · exact Or.inl ⟨q, if_pos q⟩
      · exact Or.inr ⟨by omega, if_neg q⟩
    unfold jpo
    omega
  have m36 : ∀ k x, k < E → x < 23 → kpI M c 100 36 (23 * k + x) = M 100 36 (23 * o k + x) := by
    intro k x hk hx
    rw [kpI_36, ← hE, kpR, if_neg (by omega), if_neg (by omega), if_neg (by omega), keR, ho]
    by_cases q : nn (M 8 0 31) = 40
    · have : 23 * k + x + 23 = 23 * (k + 1) + x := by omega
      rw [if_pos q]
      show sft (M 100 36) 23 897 (23 * k + x) = M 100 36 (23 * (if nn (M 8 0 31) = 40 then k + 1 else k) + x)
      rw [if_pos q, sft, if_pos (by omega), this]
    · rw [if_neg q]
      show M 100 36 (23 * k + x) = M 100 36 (23 * (if nn (M 8 0 31) = 40 then k + 1 else k) + x)
      rw [if_neg q]
  have m37 : ∀ k, k < E → kpI M c 100 37 k = M 100 37 (o k) := by
    intro k hk
    rw [kpI_37, ← hE, uf, if_neg (by omega), kcR, ho]
    by_cases q : nn (M 8 0 31) = 40
    · rw [if_pos q]
      show sft (M 100 37) 1 39 k = M 100 37 (if nn (M 8 0 31) = 40 then k + 1 else k)
      rw [if_pos q, sft, if_pos (by omega)]
    · rw [if_neg q]
      show M 100 37 k = M 100 37 (if nn (M 8 0 31) = 40 then k + 1 else k)
      rw [if_neg q]
  have e36 : kpI M c 100 36 (23 * E) = M 100 28 c ∧ kpI M c 100 36 (23 * E + 1) = M 100 29 c ∧ ∀ m f, m < 4 → f < 5 → kpI M c 100 36 (23 * E + 3 + f + 5 * m) = mP M c f m := by
    rw [kpI_36, ← hE]
    refine ⟨by rw [kpR, if_pos rfl], by rw [kpR, if_neg (by omega), if_pos rfl], fun m f hm hf => ?_⟩
    have a1 : (23 * E + 3 + f + 5 * m - (23 * E + 3)) % 5 = f := by omega
    have a2 : (23 * E + 3 + f + 5 * m - (23 * E + 3)) / 5 = m := by omega
    rw [kpR, if_neg (by omega), if_neg (by omega), if_pos (by omega), a1, a2]
  have e37 : kpI M c 100 37 E = Int32.ofNat c := by rw [kpI_37, ← hE, uf, if_pos rfl]
  have m36' : ∀ k m f, k < E → m < 4 → f < 5 → kpI M c 100 36 (23 * k + 3 + f + 5 * m) = M 100 36 (23 * o k + 3 + f + 5 * m) := by
    intro k m f hk hm hf
    have := m36 k (3 + f + 5 * m) hk (by omega)
    have a1 : 23 * k + (3 + f + 5 * m) = 23 * k + 3 + f + 5 * m := by omega
    have a2 : 23 * o k + (3 + f + 5 * m) = 23 * o k + 3 + f + 5 * m := by omega
    rw [a1, a2] at this
    exact this
  refine ⟨⟨?_, ?_, fun k hk => ?_⟩, ?_, ?_, fun k hk => ?_, fun k hk => ?_⟩
  · rw [rmm_33, kpI_31, ← hE, h1]
    congr 1
    omega
  · rw [rmm_7, kpI_32, h2]
  · rw [c31] at hk
    rw [jp]
    by_cases z : k < E
    · obtain ⟨o2, o3, o4⟩ := o1 k z
      have q40 : (j + 41 + k - (E + 1)) % 40 < 40 := Nat.mod_lt _ (by decide)
      obtain ⟨g1, g2, g3, g4⟩ := h3 (o k) o2
      rw [← o3] at g1 g2 g3 g4
      obtain ⟨y, hy⟩ : ∃ y, y = (j + 41 + k - (E + 1)) % 40 := ⟨_, rfl⟩
      rw [← hy] at g1 g2 g3 g4 o4 q40 ⊢
      have x1 := m36 k 1 z (by decide)
      have x0 : kpI M c 100 36 (23 * k) = M 100 36 (23 * o k) := m36 k 0 z (by decide)
      have w1 : ∀ f, remI I c 1 y f = I 1 y f := fun f => by rw [rmm_1, if_neg (fun q => o4 (by rw [hj]; exact q.1))]
      rw [rmm_6, m37 k z, x0, x1, w1, w1]
      refine ⟨by rw [uf, if_neg (fun q => o4 (by rw [hj]; exact q))]; exact g1, g2, g3, fun m hm f hf => ?_⟩
      have v5 : nn (M 100 36 (23 * o k + 1)) < 5 := (v4 (o k) o2).2.2.1.2
      have rn : nn (I 1 (40 + c) 1) < 5 := by rw [r3]; exact n5
      rw [m36' k m f z (by omega) hf, rmm_5, if_neg]
      · exact g4 m hm f hf
      · intro q
        rw [← hj] at q
        omega
    · have : k = E := by omega
      subst this
      have y : (j + 41 + k - (k + 1)) % 40 = j := by omega
      rw [y, rmm_6, e37, e36.1, e36.2.1, rmm_1, rmm_1, if_pos ⟨hj, Or.inr rfl⟩, if_pos ⟨hj, Or.inl rfl⟩]
      refine ⟨by rw [uf, if_pos hj], r2, r3, fun m hm f hf => ?_⟩
      have y2 : 4 * (40 + c) + (4 * j + m - 4 * j) = 4 * (40 + c) + m := by omega
      rw [e36.2.2 m f (by omega) hf, rmm_5, ← hj, if_pos ⟨⟨by omega, by rw [r3]; omega⟩, hf⟩, y2]
      exact r4 m hm f hf
  · rw [rmm_32, ← hj]
    exact nt_ix (n := 40) j40 (by decide)
  · rw [kpI_31, ← hE]
    exact nt_ix (n := 41) (by omega) (by decide)
  · rw [rmm_1, rmm_6]
    refine ⟨?_, ?_⟩
    · by_cases q : k = jrL I
      · rw [if_pos ⟨q, Or.inl rfl⟩, r3]; exact s2
      · rw [if_neg (fun w => q w.1)]; exact (v3 k hk).1
    · unfold uf
      split
      · exact nt_ix (n := 8) hc (by decide)
      · exact (v3 k hk).2
  · rw [c31] at hk
    by_cases z : k < E
    · obtain ⟨o2, _, _⟩ := o1 k z
      obtain ⟨g1, g2, g3, g4⟩ := v4 (o k) o2
      have x1 := m36 k 1 z (by decide)
      have x0 : kpI M c 100 36 (23 * k) = M 100 36 (23 * o k) := m36 k 0 z (by decide)
      have v5 : nn (M 100 36 (23 * o k + 1)) < 5 := g3.2
      rw [m37 k z, x0, x1]
      exact ⟨g1, g2, g3, pnOk_cg (fun f m hf hm => m36' k m f z (by omega) hf) g4⟩
    · have : k = E := by omega
      subst this
      rw [e37, e36.1, e36.2.1]
      have hm4 : ∀ m, m < nn (M 100 29 c) → m < 4 := fun m hm => by omega
      exact ⟨nt_ix (n := 8) hc (by decide), s1, s2, pnOk_cg (fun f m hf hm => e36.2.2 m f (hm4 m hm) hf) s3⟩
end PI
