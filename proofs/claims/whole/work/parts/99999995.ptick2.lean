/-! a tick: the cues, class and model -/
section PN
variable {I M I' M' N K : Nat → Nat → Nat → Int32}
theorem rcs_ne {P : Nat → Nat → Nat → Int32} {n : Nat → Nat} {b : Nat → Nat → Int32} {h : Nat → Int32} {t : (Nat → Int32) × (Nat → Int32) × (Nat → Int32)} {p : Nat} (pn : ∀ c, c < 8 → pnOk (P c) (n c)) (j : JV P n b t) (hp : ∀ c, c < 8 → bsy (t.1 c) → ∀ m, m < n c → ¬ nn (P c 0 m) = p) : ∀ c, c ≤ 8 → (rcsR P b h n t c).2.1 p = t.2.1 p
  | 0, _ => rfl
  | c + 1, hc => by
    have ih := rcs_ne (h := h) pn j hp c (by omega)
    obtain ⟨_, i2, _⟩ := rcs_JV (h := h) pn j c (by omega)
    rw [rcsR]
    by_cases q : (rcsR P b h n t c).1 c = 2
    · rw [cif_t q]
      have bc : bsy (t.1 c) := by
        rw [← i2 c (Nat.le_refl _), q]
        exact Or.inr (Or.inl rfl)
      have no := hp c (by omega) bc
      have a := (advR_ne (P := P c) (b := b c) (h := h c) (s := (rcsR P b h n t c).2) (p := p) (k := 0) (n c) (by omega) (fun m _ hm => no m hm)).1
      show (rcR _ _ _ _ _ _).2.1 p = _
      rw [← ih]
      unfold rcR
      by_cases g : ∀ i, i < n c → (advR (P c) (b c) (h c) (rcsR P b h n t c).2 (n c)).1 (nn (P c 0 i)) = P c 1 i
      · rw [cif_t g]; exact a
      · rw [cif_f g]
        by_cases k : h c = 0 ∧ ∀ i, i < n c → (advR (P c) (b c) (h c) (rcsR P b h n t c).2 (n c)).2 (nn (P c 0 i)) = 0
        · rw [cif_t k]; exact a
        · rw [cif_f k]; exact a
    · rw [cif_f q]
      exact ih
theorem JV_of (h : Rel I M) : JV (mP M) (mN M) (mB M) (M 100 27, M 100 23, M 100 24) := by
  obtain ⟨_, _, vp, _, _, va, vs, _⟩ := h
  exact ⟨fun p hp => ⟨(vp p hp).1, (vp p hp).2.1⟩, fun c hc b m hm => (va c hc b m hm).2.2.1, fun p hp q => vs p hp q, fun c hc b d hd bd m hm j hj e => ((va c hc b m hm).2.2.2 d hd bd j hj e.symm).symm⟩
theorem tick_1 (h : Rel I M) : Rel (tk1 I) (mk1 M) ∧ ∀ c, c < 8 → (mcR M c).1 c = 2 → tcOk (mP M c) (mB M c) (mH M c) (mN M c) (mcR M c).2 := by
  have jv := JV_of h
  have pn : ∀ c, c < 8 → pnOk (mP M c) (mN M c) := fun c hc => (h.2.2.2.2.1 c hc).2.2
  have rc := h.1.2.2.2.2.1
  obtain ⟨g1, g2, _⟩ := rcsR_cg (P := kP I) (P' := mP M) (b := kB I) (b' := mB M) (h := kH I) (h' := mH M) (n := kN I) (n' := mN M) (x := stX I) (x' := M 100 27) (s := (M 100 23, M 100 24)) (kN_eq rc) (fun c hc => by
      unfold kH mH
      rw [(rc c hc).2.1]
      exact h.1.2.2.2.2.2.2.1 _ (h.2.2.2.2.1 c hc).1.2) (fun c hc f m hf hm => kP_eq rc c hc f hf m hm) (fun c hc b m hm => by
      have e0 : I 5 (4 * (40 + c) + m) 0 = mP M c 0 m := (rc c hc).2.2.2 m hm 0 (by decide)
      show I 100 2 (nn (I 5 (4 * (40 + c) + m) 0)) = mB M c m
      rw [e0]
      exact h.1.2.2.2.2.2.1 c hc b m hm) (fun c hc m hm => ⟨(pn c hc m hm).1, (pn c hc m hm).2.2.2.1⟩) (stX_eq rc) 8 (Nat.le_refl _)
  obtain ⟨T, hT⟩ : ∃ T, T = rcsR (kP I) (kB I) (kH I) (kN I) (stX I, I 100 0, I 100 1) 8 := ⟨_, rfl⟩
  have hT' : rcsR (kP I) (kB I) (kH I) (kN I) (stX I, M 100 23, M 100 24) 8 = T := by rw [hT, h.1.2.2.2.1.1, h.1.2.2.2.1.2]
  rw [hT'] at g1 g2
  obtain ⟨U, hU⟩ : ∃ U, U = mcR M 8 := ⟨_, rfl⟩
  have hU' : rcsR (mP M) (mB M) (mH M) (mN M) (M 100 27, M 100 23, M 100 24) 8 = U := by rw [hU, mcR]
  rw [hU'] at g1 g2
  obtain ⟨jv8, _, sub⟩ := rcs_JV (h := mH M) pn jv 8 (Nat.le_refl _)
  rw [hU'] at jv8 sub
  have eI : tk1 I = cs3 I T := by rw [tk1, hT]
  have eM : mk1 M = ts3 M U := by rw [mk1, hU]
  refine ⟨?_, fun c hc q => ?_⟩
  · rw [eI, eM]
    have ec : ∀ b i, ¬ ((b = 1 ∧ 40 ≤ i) ∨ (b = 100 ∧ (i = 0 ∨ i = 1))) → cs3 I T b i = I b i := by
      intro b i q
      rw [cs3, ms2, ro_ne (by omega), ro_ne (by omega)]
      funext f
      rw [stI, if_neg (by omega)]
    have e : ∀ b i, ¬ (b = 100 ∧ (i = 23 ∨ i = 24 ∨ i = 27)) → ts3 M U b i = M b i := by
      intro b i q
      rw [ts3, av2, ro_ne (by omega), ro_ne (by omega), ro_ne (by omega)]
    have e31 : ts3 M U 8 0 31 = M 8 0 31 := by rw [e 8 0 (by omega)]
    have e32 : ts3 M U 8 0 32 = M 8 0 32 := by rw [e 8 0 (by omega)]
    have e27 : ts3 M U 100 27 = U.1 := ts3_x
    have e23 : ts3 M U 100 23 = U.2.1 := ts3_a
    have e24 : ts3 M U 100 24 = U.2.2 := ts3_v
    have bs : ∀ c, bsy (ts3 M U 100 27 c) → bsy (M 100 27 c) := fun c q => by
      rw [e27] at q
      exact sub c q
    have eP : ∀ c f m, f < 5 → mP (ts3 M U) c f m = mP M c f m := fun c f m hf => mP_fr (fun k _ _ => e 100 k (by omega)) hf
    have eN : ∀ c, mN (ts3 M U) c = mN M c := fun c => mN_fr (e 100 29 (by omega))
    have eB : ∀ c m, mB (ts3 M U) c m = mB M c m := fun c m => by
      unfold mB
      rw [e 100 35 (by omega)]
    refine ⟨⟨RD_fr h.1.1 (funext fun i => ec 2 i (by omega)) (fun k _ _ => e 100 k (by omega)) (e 101 1 (by omega)) (e 101 2 (by omega)), RB_fr h.1.2.1 (fun p _ => ec 0 (1 + p) (by omega)) (fun k _ _ => e 100 k (by omega)), RP_fr h.1.2.2.1 (funext fun i => ec 6 i (by omega)) (e 100 25 (by omega)) (e 100 26 (by omega)) (e 101 3 (by omega)), ?_, ?_, ?_, RH_fr h.1.2.2.2.2.2.2.1 (ec 101 0 (by omega)) (e 101 4 (by omega)), RJ_fr h.1.2.2.2.2.2.2.2 (funext fun i => ec 3 i (by omega)) (congrFun (ec 7 0 (by omega)) 11) (fun k _ => ec 1 k (by omega)) (fun k _ => ec 5 k (by omega)) (ec 100 6 (by omega)) h.2.2.2.2.2.2.2 e31 e32 (e 100 36 (by omega)) (e 100 37 (by omega))⟩, VD_fr h.2.1 (e 100 10 (by omega)) (e 100 11 (by omega)) (e 100 12 (by omega)) (e 100 14 (by omega)) (e 100 16 (by omega)) (e 101 1 (by omega)) (e 101 3 (by omega)), ?_, VB_fr h.2.2.2.1 (fun k _ _ => e 100 k (by omega)), VC_fr h.2.2.2.2.1 (fun k _ _ => e 100 k (by omega)), ?_, ?_, VJ_fr h.2.2.2.2.2.2.2 (funext fun i => ec 3 i (by omega)) (fun k _ => ec 1 k (by omega)) (ec 100 6 (by omega)) e31 (e 100 36 (by omega)) (e 100 37 (by omega))⟩
    · exact ⟨by rw [cs3_a, e23, g2], by rw [cs3_v, e24, g2]⟩
    · intro c hc
      obtain ⟨h1, h2, h3, h4⟩ := rc c hc
      rw [cs3_x hc, cs3_1 (by decide), cs3_1 (by decide), e27, e 100 28 (by omega), e 100 29 (by omega), eN]
      refine ⟨g1 c hc, h2, h3, fun m hm f hf => ?_⟩
      rw [ec 5 _ (by omega), eP c f m hf]
      exact h4 m hm f hf
    · exact RG_fr h.1.2.2.2.2.2.1 (ec 100 2 (by omega)) (fun k _ _ => e 100 k (by omega)) (fun c _ => bs c)
    · intro p hp
      obtain ⟨v1, v2, v3, v4, v5⟩ := h.2.2.1 p hp
      rw [e23, e24, e 100 25 (by omega), e 101 3 (by omega), e 100 10 (by omega)]
      refine ⟨(jv8.1 p hp).1, (jv8.1 p hp).2, v3, fun q => ⟨?_, (v4 q).2⟩, v5⟩
      have ne := rcs_ne (h := mH M) (p := p) pn jv (fun c hc b m hm w => by
        have := (h.2.2.2.2.2.1 c hc b m hm).1
        rw [w] at this
        exact this q) 8 (Nat.le_refl _)
      rw [hU'] at ne
      rw [ne]
      exact (v4 q).1
    · intro c hc b m hm
      rw [eN] at hm
      have b' := b
      rw [e27] at b'
      obtain ⟨h1, h2, _, h4⟩ := h.2.2.2.2.2.1 c hc (bs c b) m hm
      rw [eP c 0 m (by decide), eP c 1 m (by decide), eB, e23, e24, e 101 3 (by omega), e 100 25 (by omega)]
      refine ⟨h1, h2, jv8.2.1 c hc b' m hm, fun d hd bd j hj w => ?_⟩
      rw [eN] at hj
      rw [eP d 0 j (by decide)] at w
      exact h4 d hd (bs d bd) j hj w
    · intro p hp q
      rw [e24]
      refine jv8.2.2.1 p hp fun c hc b m hm => ?_
      have := q c hc (by rw [e27]; exact b) m (by rw [eN]; exact hm)
      rw [eP c 0 m (by decide)] at this
      exact this
  · obtain ⟨j1, i2, i3⟩ := rcs_JV (h := mH M) pn jv c (by omega)
    have j1' : JV (mP M) (mN M) (mB M) (mcR M c) := j1
    exact adv_tc (pn c hc) j1'.1 (j1'.2.1 c hc (by rw [q]; exact Or.inr (Or.inl rfl)))
end PN
