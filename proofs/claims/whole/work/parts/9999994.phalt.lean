/-! the calls side by side: halt, clearReason, box -/
section PE
variable {l : Launch} {L : Nat} {I M I' M' : Nat → Nat → Nat → Int32} {J : Nat → Nat → Nat → Int64}
theorem mpOk_of {c : Nat} (h : VC M) (hc : c < 8) : mpOk M c := ⟨(h c hc).2.1, fun m hm => ⟨((h c hc).2.2 m hm).1, ((h c hc).2.2 m hm).2.1, ((h c hc).2.2 m hm).2.2.2.1⟩⟩
theorem plOk_of {c : Nat} (r : RC I M) (h : VC M) (hc : c < 8) : plOk I (40 + c) := by
  obtain ⟨_, _, r3, r4⟩ := r c hc
  unfold plOk
  rw [r3]
  refine ⟨(h c hc).2.1, fun m hm => ?_⟩
  have q := (h c hc).2.2 m hm
  rw [r4 m hm 0 (by decide), r4 m hm 2 (by decide), r4 m hm 3 (by decide)]
  exact ⟨q.1, q.2.1, q.2.2.2.1⟩
theorem p_halt {s : Int32} (hR : Rel I I) : rf_C l 100 [dk, .inl s, ol] (sS L I J) (tpV l L I 102 [mo, .inl s]) := by
  have hp : ∀ c, c < 8 → plOk I (40 + c) := fun c hc => plOk_of hR.1.2.2.2.2.1 hR.2.2.2.2.1 hc
  have hm : ∀ c, c < 8 → mpOk I c := fun c hc => mpOk_of hR.2.2.2.2.1 hc
  refine e_halt (c_halt hp (fun a1 => ?_) (fun a1 r hr => ?_))
  · exact ⟨1, I, J, rfl, rfl, rfl, fun Q' q => d_halt hm (fun _ => q _ _ (Rel_th hR) th_200 thI_0 (fun z => absurd z (by decide))) (fun a _ _ => absurd a a1)⟩
  · obtain ⟨K, hK⟩ : ∃ K, K = wsI I (reQ I, r.1) := ⟨_, rfl⟩
    rw [← hK]
    have eK : ∀ b i, ¬ ((b = 1 ∧ 40 ≤ i) ∨ (b = 100 ∧ i = 1)) → K b i = I b i := by
      intro b i h
      rw [hK, wsI, reI_id, ro_ne (by omega)]
      funext f
      rw [stI, if_neg (by omega)]
    have vK : VC K := VC_fr hR.2.2.2.2.1 (fun k _ _ => eK 100 k (by omega))
    refine ⟨z102, 0, K, _, rfl, rfl, funext fun i => eK 200 i (by omega), fun Q' q => d_halt (fun c hc => mpOk_of vK hc) (fun a => absurd a1 a) (fun _ r' hr' => ?_)⟩
    have kQ' : mQ K = mQ I := by
      funext c m
      show K 100 30 _ = I 100 30 _
      rw [eK 100 30 (by omega)]
    have kN' : mN K = mN I := by
      funext c
      exact mN_fr (eK 100 29 (by omega))
    rw [kQ', kN', eK 100 27 (by omega), eK 100 28 (by omega), eK 100 24 (by omega)] at hr'
    rw [hR.1.2.2.2.1.2] at hr
    obtain ⟨g1, g2, g3⟩ := hlF_cg (s := s) (v := I 100 24) (P := kQ I) (P' := mQ I) (kS_eq hR.1.2.2.2.2.1) (stX_eq hR.1.2.2.2.2.1) (kN_eq hR.1.2.2.2.2.1) (fun c hc j hj => kP_eq hR.1.2.2.2.2.1 c hc 0 (by decide) j hj) 8 (Nat.le_refl _)
    have sp := hlF_SP (t := I 100 28) (x := I 100 27) (v := I 100 24) (s := s) (P := mQ I) (n := mN I) 8 (Nat.le_refl _)
    rw [← hr, ← hr'] at g1 g2 g3
    rw [← hr'] at sp
    have e : ∀ b i, ¬ ((b = 1 ∧ 40 ≤ i) ∨ (b = 100 ∧ (i = 1 ∨ i = 24 ∨ i = 27)) ∨ b = 8) → hm2 (thI K 0) r'.1 b i = I b i := by
      intro b i h
      rw [hm2, ro_ne (by omega), ro_ne (by omega), thI_b (by omega), eK b i (by omega)]
    have e31 : hm2 (thI K 0) r'.1 8 0 31 = I 8 0 31 := by rw [hm2_b (by decide), thI_8 (by decide), eK 8 0 (by omega)]
    have e32 : hm2 (thI K 0) r'.1 8 0 32 = I 8 0 32 := by rw [hm2_b (by decide), thI_8 (by decide), eK 8 0 (by omega)]
    have e27 : hm2 (thI K 0) r'.1 100 27 = r'.1.1 := hm2_x
    have e24 : hm2 (thI K 0) r'.1 100 24 = r'.1.2 := hm2_v
    have e1 : hm2 (thI K 0) r'.1 100 1 = r.1.2 := by rw [hm2_o (by decide) (by decide), thI_b (by decide), hK, wsI_v]
    have sp' : SP (mQ I) (mN I) (I 100 27) (I 100 24) (hm2 (thI K 0) r'.1 100 27) (hm2 (thI K 0) r'.1 100 24) := by
      rw [e27, e24]
      exact sp
    have e0 : hm2 (thI K 0) r'.1 8 0 0 = 0 := by rw [hm2_b (by decide), thI_0]
    refine q _ _ ?_ (funext fun i => e 200 i (by omega)) e0 (fun _ => by rw [← g3]; simp [rf_u3])
    have ex : ∀ d, d < 8 → bsy (hm2 (thI K 0) r'.1 100 27 d) → bsy (I 100 27 d) := fun d hd b => (sp'.1 d hd).elim (fun w => w ▸ b) fun w => w.2.1
    refine ⟨⟨RD_fr hR.1.1 (funext fun i => e 2 i (by omega)) (fun k _ _ => e 100 k (by omega)) (e 101 1 (by omega)) (e 101 2 (by omega)), RB_fr hR.1.2.1 (fun p _ => e 0 (1 + p) (by omega)) (fun k _ _ => e 100 k (by omega)), RP_fr hR.1.2.2.1 (funext fun i => e 6 i (by omega)) (e 100 25 (by omega)) (e 100 26 (by omega)) (e 101 3 (by omega)), ?_, ?_, ?_, RH_fr hR.1.2.2.2.2.2.2.1 (e 101 0 (by omega)) (e 101 4 (by omega)), RJ_fr hR.1.2.2.2.2.2.2.2 (funext fun i => e 3 i (by omega)) (congrFun (e 7 0 (by omega)) 11) (fun k _ => e 1 k (by omega)) (fun k _ => e 5 k (by omega)) (e 100 6 (by omega)) hR.2.2.2.2.2.2.2 e31 e32 (e 100 36 (by omega)) (e 100 37 (by omega))⟩, VD_fr hR.2.1 (e 100 10 (by omega)) (e 100 11 (by omega)) (e 100 12 (by omega)) (e 100 14 (by omega)) (e 100 16 (by omega)) (e 101 1 (by omega)) (e 101 3 (by omega)), ?_, VB_fr hR.2.2.2.1 (fun k _ _ => e 100 k (by omega)), VC_fr hR.2.2.2.2.1 (fun k _ _ => e 100 k (by omega)), ?_, ?_, VJ_fr hR.2.2.2.2.2.2.2 (funext fun i => e 3 i (by omega)) (fun k _ => e 1 k (by omega)) (e 100 6 (by omega)) e31 (e 100 36 (by omega)) (e 100 37 (by omega))⟩
    · refine ⟨?_, ?_⟩
      · rw [e 100 0 (by omega), e 100 23 (by omega)]; exact hR.1.2.2.2.1.1
      · rw [e1, e24]; exact g2
    · intro c hc
      obtain ⟨h1, h2, h3, h4⟩ := hR.1.2.2.2.2.1 c hc
      have c1 : ∀ f, ¬ f = 3 → hm2 (thI K 0) r'.1 1 (40 + c) f = I 1 (40 + c) f := fun f hf => by rw [hm2_b (by decide), thI_b (by decide), hK, wsI_1 hf]
      have c3 : hm2 (thI K 0) r'.1 1 (40 + c) 3 = r.1.1 c := by rw [hm2_b (by decide), thI_b (by decide), hK, wsI_x hc]
      refine ⟨by rw [c3, e27]; exact g1 c hc, by rw [c1 2 (by decide), e 100 28 (by omega)]; exact h2, by rw [c1 1 (by decide), e 100 29 (by omega)]; exact h3, fun m hm f hf => ?_⟩
      rw [mN_fr (e 100 29 (by omega))] at hm
      rw [e 5 _ (by omega), mP_fr (fun k _ _ => e 100 k (by omega)) hf]
      exact h4 m hm f hf
    · exact RG_fr hR.1.2.2.2.2.2.1 (e 100 2 (by omega)) (fun k _ _ => e 100 k (by omega)) ex
    · intro p hp
      obtain ⟨v1, v2, v3, v4, v5⟩ := hR.2.2.1 p hp
      rw [e 100 23 (by omega), e 100 25 (by omega), e 101 3 (by omega), e 100 10 (by omega)]
      refine ⟨v1, ?_, v3, v4, v5⟩
      rcases sp'.2 p with w | ⟨w, _⟩
      · rw [w]; exact v2
      · rw [w]; exact ⟨by decide, by decide⟩
    · exact SP_VA hR.2.2.2.2.2.1 sp' (fun k _ _ => e 100 k (by omega)) (e 100 23 (by omega)) (fun c hc b m hm => by rw [e 100 25 (by omega)]; exact (hR.2.2.2.2.2.1 c hc (ex c hc b) m hm).2.1) (e 101 3 (by omega))
    · exact SP_VS hR.2.2.2.2.2.2.1 sp' (fun k _ _ => e 100 k (by omega))
/-- of a kind whose answer is yes or no -/
def tpB (l : Launch) (L : Nat) (I : Nat → Nat → Nat → Int32) (k : Nat) (as : List rf_V) : rf_O → rf_S → Prop := fun u σ => ∃ (r : Int32) (K : Nat → Nat → Nat → Int32) (J : Nat → Nat → Nat → Int64), u = .inl (some (.inl r)) ∧ σ = sS L K J ∧ K 200 = I 200 ∧ ∀ Q' : rf_O → rf_S → Prop, (∀ K' y, Rel K' K' → K' 200 = I 200 → K' 8 0 0 = r → (y = 0 ∨ y = 1) → (r = 0 → J 102 0 0 = if y = 0 then Int64.ofNat 0 else Int64.ofNat 1) → Q' (.inl (some (.inl y))) (sS L K' J)) → rf_C l k as (sS L K J) Q'
theorem p_clearReason {p : Int32} (hR : Rel I I) : rf_C l 146 [dk, .inl p, ol] (sS L I J) (tpB l L I 147 [mo, .inl p]) := by
  have ev : ok p 6 → (crC I p ↔ crM I p) := by
    intro a1
    obtain ⟨e1, e2, _⟩ := hR.1.2.2.1 (nn p) a1.2
    obtain ⟨l1, _⟩ := drv_low (p := p) hR.1.1
    unfold crC crM
    rw [e1, e2, l1]
    by_cases hh : I 101 3 (nn p) = 0
    · exact ⟨fun q => absurd hh q.1, fun q => absurd hh q.1⟩
    · obtain ⟨g1, _, _, _, _, p1, _⟩ := drv_ext hR.2.1 hR.2.2.1 a1 hh
      rw [rs_eq hR.1.1 hR.1.2.2.1 hR.2.1 hR.2.2.1 a1 hh (by rw [g1]; exact p1)]
  refine e_clearReason (c_clearReason (hd_c hR) (fun a1 => ?_) (fun a1 a2 => ?_) (fun a1 a2 => ?_))
  · exact ⟨1, I, J, rfl, rfl, rfl, fun Q' q => d_clearReason (hd_m hR) (fun _ => q _ _ (Rel_th hR) th_200 thI_0 (Or.inl rfl) (fun z => absurd z (by decide))) (fun a _ => absurd a a1) (fun a _ => absurd a a1)⟩
  · refine ⟨fun _ => ⟨z102, 0, I, _, rfl, rfl, rfl, fun Q' q => d_clearReason (hd_m hR) (fun a => absurd a1 a) (fun _ _ => q _ _ (Rel_th hR) th_200 thI_0 (Or.inl rfl) (fun _ => ?_)) (fun _ a => absurd ((ev a1).mpr a) a2)⟩, fun z => absurd rfl z⟩
    rw [if_pos rfl]
    simp [rf_u3]
  · obtain ⟨e1, e2, _⟩ := hR.1.2.2.1 (nn p) a1.2
    obtain ⟨l1, _⟩ := drv_low (p := p) hR.1.1
    have m2 := (ev a1).mp a2
    obtain ⟨g1, _, _, _, _, p1, _⟩ := drv_ext hR.2.1 hR.2.2.1 a1 m2.1
    obtain ⟨w, hw⟩ : ∃ w, w = lowF (I 100 10) (I 100 11) p 12 := ⟨_, rfl⟩
    have pw : pl w := by rw [hw, g1]; exact p1
    rw [l1, ← hw]
    obtain ⟨K, hK⟩ : ∃ K, K = ms2 (rf_u3 I 6 (nn p) 4 0) 0 (uf (I 100 0) (nn p) w) (uf (I 100 1) (nn p) 0) := ⟨_, rfl⟩
    rw [← hK]
    have eK : ∀ b i, ¬ (b = 6 ∨ (b = 100 ∧ (i = 0 ∨ i = 1))) → K b i = I b i := by
      intro b i h
      rw [hK, ms2, ro_ne (by omega), ro_ne (by omega), u3_b (by omega)]
    have cmK : crM K p ↔ crM I p := by
      unfold crM
      rw [eK 101 3 (by omega), eK 100 25 (by omega), eK 100 10 (by omega), eK 100 11 (by omega), rsM_congr (fun k hk => eK 100 k (by omega)) (funext fun i => eK 101 i (by omega))]
    have hdK : ∀ h, h < 12 → (K 100 16 h = -1 ∨ 0 ≤ K 100 16 h) ∧ (K 100 10 h = -1 ∨ ok (K 100 10 h) 6) := by
      rw [eK 100 16 (by omega), eK 100 10 (by omega)]
      exact hd_m hR
    refine ⟨fun z => absurd z (by decide), fun _ => ⟨z102, 0, K, _, rfl, rfl, funext fun i => eK 200 i (by omega), fun Q' q => d_clearReason hdK (fun a => absurd a1 a) (fun _ a => absurd (cmK.mpr m2) a) (fun _ _ => ?_)⟩⟩
    rw [eK 100 10 (by omega), eK 100 11 (by omega), ← hw]
    obtain ⟨N, hN⟩ : ∃ N, N = rf_u3 (rf_u3 (rf_u3 (thI K 0) 100 25 (nn p) 0) 100 23 (nn p) w) 100 24 (nn p) 0 := ⟨_, rfl⟩
    rw [← hN]
    have e : ∀ b i, ¬ (b = 6 ∨ (b = 100 ∧ (i = 0 ∨ i = 1 ∨ i = 23 ∨ i = 24 ∨ i = 25)) ∨ b = 8) → N b i = I b i := by
      intro b i h
      rw [← eK b i (by omega), hN]
      funext f
      simp only [rf_u3, thI]
      repeat (first | rw [if_neg (by omega)] | rfl)
    have e31 : N 8 0 31 = I 8 0 31 := by
      rw [← eK 8 0 (by omega), hN]
      simp [rf_u3, thI]
    have e32 : N 8 0 32 = I 8 0 32 := by
      rw [← eK 8 0 (by omega), hN]
      simp [rf_u3, thI]
    have e0 : N 8 0 0 = 0 := by
      rw [hN]
      simp [rf_u3, thI]
    have n23 : N 100 23 = uf (I 100 23) (nn p) w := by
      rw [← eK 100 23 (by omega), hN]
      funext f
      simp [rf_u3, thI, uf]
    have n24 : N 100 24 = uf (I 100 24) (nn p) 0 := by
      rw [← eK 100 24 (by omega), hN]
      funext f
      simp [rf_u3, thI, uf]
    have n25 : N 100 25 = uf (I 100 25) (nn p) 0 := by
      rw [← eK 100 25 (by omega), hN]
      funext f
      simp [rf_u3, thI, uf]
    have n0 : N 100 0 = uf (I 100 0) (nn p) w := by
      have : N 100 0 = K 100 0 := by
        rw [hN]
        funext f
        simp [rf_u3, thI]
      rw [this, hK]
      exact ms2_a (i := 0)
    have n1 : N 100 1 = uf (I 100 1) (nn p) 0 := by
      have : N 100 1 = K 100 1 := by
        rw [hN]
        funext f
        simp [rf_u3, thI]
      rw [this, hK]
      exact ms2_v (i := 0)
    have n6 : ∀ t f, N 6 t f = if t = nn p ∧ f = 4 then 0 else I 6 t f := fun t f => by
      have : N 6 t f = K 6 t f := by
        rw [hN]
        simp [rf_u3, thI]
      rw [this, hK, ms2_b (by decide)]
      simp [rf_u3]
    -- the piece is moved by no cue
    have free : ∀ c, c < 8 → bsy (I 100 27 c) → ∀ m, m < mN I c → ¬ nn (mP I c 0 m) = nn p := by
      intro c hc b m hm q
      have := (hR.2.2.2.2.2.1 c hc b m hm).2.1
      rw [q] at this
      exact m2.2.1 this
    refine q _ _ ?_ (funext fun i => e 200 i (by omega)) e0 (Or.inr rfl) (fun _ => by rw [if_neg (by decide)]; simp [rf_u3])
    refine ⟨⟨RD_fr hR.1.1 (funext fun i => e 2 i (by omega)) (fun k _ _ => e 100 k (by omega)) (e 101 1 (by omega)) (e 101 2 (by omega)), RB_fr hR.1.2.1 (fun p _ => e 0 (1 + p) (by omega)) (fun k _ _ => e 100 k (by omega)), ?_, ?_, RC_fr hR.1.2.2.2.2.1 (fun c _ => e 1 (40 + c) (by omega)) (fun c _ m _ => e 5 (4 * (40 + c) + m) (by omega)) hR.2.2.2.2.1 (fun k _ _ => e 100 k (by omega)), RG_fr hR.1.2.2.2.2.2.1 (e 100 2 (by omega)) (fun k _ _ => e 100 k (by omega)) (fun c _ hb => by rw [e 100 27 (by omega)] at hb; exact hb), RH_fr hR.1.2.2.2.2.2.2.1 (e 101 0 (by omega)) (e 101 4 (by omega)), RJ_fr hR.1.2.2.2.2.2.2.2 (funext fun i => e 3 i (by omega)) (congrFun (e 7 0 (by omega)) 11) (fun k _ => e 1 k (by omega)) (fun k _ => e 5 k (by omega)) (e 100 6 (by omega)) hR.2.2.2.2.2.2.2 e31 e32 (e 100 36 (by omega)) (e 100 37 (by omega))⟩, VD_fr hR.2.1 (e 100 10 (by omega)) (e 100 11 (by omega)) (e 100 12 (by omega)) (e 100 14 (by omega)) (e 100 16 (by omega)) (e 101 1 (by omega)) (e 101 3 (by omega)), ?_, VB_fr hR.2.2.2.1 (fun k _ _ => e 100 k (by omega)), VC_fr hR.2.2.2.2.1 (fun k _ _ => e 100 k (by omega)), ?_, ?_, VJ_fr hR.2.2.2.2.2.2.2 (funext fun i => e 3 i (by omega)) (fun k _ => e 1 k (by omega)) (e 100 6 (by omega)) e31 (e 100 36 (by omega)) (e 100 37 (by omega))⟩
    · intro t ht
      obtain ⟨q1, q2, q3⟩ := hR.1.2.2.1 t ht
      have n6o : ∀ f, ¬ f = 4 → N 6 t f = I 6 t f := fun f hf => by rw [n6, if_neg (fun z => hf z.2)]
      have el : lea N t = lea I t := by
        unfold lea
        rw [n6o 3 (by decide), n6o 2 (by decide)]
      rw [n6o 1 (by decide), el, n6, e 101 3 (by omega), e 100 26 (by omega), n25]
      refine ⟨q1, ?_, q3⟩
      unfold uf
      by_cases z : t = nn p
      · rw [if_pos ⟨z, rfl⟩, if_pos z]
      · rw [if_neg (fun y => z y.1), if_neg z]
        exact q2
    · refine ⟨?_, ?_⟩
      · rw [n0, n23, hR.1.2.2.2.1.1]
      · rw [n1, n24, hR.1.2.2.2.1.2]
    · intro t ht
      obtain ⟨v1, v2, v3, v4, v5⟩ := hR.2.2.1 t ht
      rw [n23, n24, n25, e 101 3 (by omega), e 100 10 (by omega)]
      unfold uf
      by_cases z : t = nn p
      · rw [if_pos z, if_pos z, if_pos z]
        refine ⟨pw, ⟨by decide, by decide⟩, by decide, fun y => absurd (z ▸ y) m2.1, v5⟩
      · rw [if_neg z, if_neg z, if_neg z]
        exact ⟨v1, v2, v3, v4, v5⟩
    · intro c hc b m hm
      rw [e 100 27 (by omega)] at b
      rw [mN_fr (e 100 29 (by omega))] at hm
      have fr := free c hc b m hm
      obtain ⟨h1, h2, h3, h4⟩ := hR.2.2.2.2.2.1 c hc b m hm
      have eP : ∀ c f m, f < 5 → mP N c f m = mP I c f m := fun c f m hf => mP_fr (fun k _ _ => e 100 k (by omega)) hf
      have eB : mB N c m = mB I c m := by
        unfold mB
        rw [e 100 35 (by omega)]
      rw [eP c 0 m (by decide), eP c 1 m (by decide), eB, n23, n24, n25, e 101 3 (by omega)]
      unfold uf
      rw [if_neg fr, if_neg fr, if_neg fr]
      refine ⟨h1, h2, h3, fun d hd hb j hj w => ?_⟩
      rw [e 100 27 (by omega)] at hb
      rw [mN_fr (e 100 29 (by omega))] at hj
      rw [eP d 0 j (by decide)] at w
      exact h4 d hd hb j hj w
    · intro t ht w
      rw [n24]
      unfold uf
      by_cases z : t = nn p
      · rw [if_pos z]
      · rw [if_neg z]
        refine hR.2.2.2.2.2.2.1 t ht fun c hc b m hm => ?_
        have := w c hc (by rw [e 100 27 (by omega)]; exact b) m (by rw [mN_fr (e 100 29 (by omega))]; exact hm)
        rw [mP_fr (fun k _ _ => e 100 k (by omega)) (by decide)] at this
        exact this
end PE
