/-! the calls side by side: unhang, hang -/
section PG
variable {l : Launch} {L : Nat} {I M I' M' : Nat → Nat → Nat → Int32} {J : Nat → Nat → Nat → Int64}
theorem has_eq (r : RC I M) {c : Nat} {p : Int32} (hc : c < 8) : hasMv I (40 + c) p ↔ mHas M c p := by
  obtain ⟨_, _, r3, r4⟩ := r c hc
  unfold hasMv mHas
  rw [r3]
  constructor
  · rintro ⟨m, hm, q⟩
    exact ⟨m, hm, (r4 m hm 0 (by decide)).symm.trans q⟩
  · rintro ⟨m, hm, q⟩
    exact ⟨m, hm, (r4 m hm 0 (by decide)).trans q⟩
theorem bz_eq (r : RC I M) {c : Nat} {p : Int32} (hc : c < 8) : bz I p c ↔ mz M p c := and_congr (busy_eq r hc) (has_eq r hc)
theorem p_unhang {p : Int32} (hR : Rel I I) : rf_C l 39 [dk, .inl p] (sS L I J) (tpN l L I 43 [mo, .inl p]) := by
  have hn : ∀ c, c < 8 → ok (I 100 29 c) 5 := fun c hc => (hR.2.2.2.2.1 c hc).2.1
  have hn' : ∀ c, c < 8 → ok (I 1 (40 + c) 1) 5 := fun c hc => by rw [(hR.1.2.2.2.2.1 c hc).2.2.1]; exact hn c hc
  have ev : ok p 6 → (unC I p ↔ unM I p) := by
    intro a1
    have z : I 100 23 (nn p) = 0 ↔ ¬ 0 < I 100 23 (nn p) := by
      constructor
      · intro q; rw [q]; decide
      · intro q; exact Int32.le_antisymm (i_nlt.mp q) (hR.2.2.1 (nn p) a1.2).1.1
    unfold unC unM
    rw [(hR.1.2.2.1 (nn p) a1.2).1, hR.1.2.2.2.1.1, z]
    constructor
    · rintro ⟨q1, q2, q3⟩
      exact ⟨q1, q2, fun c hc w => q3 c hc ((bz_eq hR.1.2.2.2.2.1 hc).mpr w)⟩
    · rintro ⟨q1, q2, q3⟩
      exact ⟨q1, q2, fun c hc w => q3 c hc ((bz_eq hR.1.2.2.2.2.1 hc).mp w)⟩
  refine e_unhang (c_unhang hn' (fun a1 => ?_) (fun a1 a2 => ?_) (fun a1 a2 => ?_))
  · exact ⟨1, I, J, rfl, rfl, rfl, fun Q' q => d_unhang hn (fun _ => q _ (Rel_th hR) th_200 thI_0) (fun a _ => absurd a a1) (fun a _ => absurd a a1)⟩
  · exact ⟨2, I, J, rfl, rfl, rfl, fun Q' q => d_unhang hn (fun a => absurd a1 a) (fun _ _ => q _ (Rel_th hR) th_200 thI_0) (fun _ a => absurd ((ev a1).mpr a) a2)⟩
  · have m2 := (ev a1).mp a2
    have p6 : nn p < 6 := a1.2
    obtain ⟨K, hK⟩ : ∃ K, K = uhI (rf_u3 (rf_u3 I 6 (nn p) 1 0) 6 (nn p) 4 0) p 12 := ⟨_, rfl⟩
    rw [← hK]
    have eK : ∀ b i, ¬ (b = 6 ∨ b = 2) → K b i = I b i := by
      intro b i h
      rw [hK]
      funext f
      rw [uhI, if_neg (by omega), u3_b (by omega), u3_b (by omega)]
    have hnK : ∀ c, c < 8 → ok (K 100 29 c) 5 := by rw [eK 100 29 (by omega)]; exact hn
    have umK : unM K p ↔ unM I p := by
      unfold unM mz mHas mN mP
      rw [eK 101 3 (by omega), eK 100 23 (by omega), eK 100 27 (by omega), eK 100 29 (by omega), eK 100 30 (by omega)]
    refine ⟨0, K, J, rfl, rfl, funext fun i => eK 200 i (by omega), fun Q' q => d_unhang hnK (fun a => absurd a1 a) (fun _ a => absurd (umK.mpr m2) a) (fun _ _ => ?_)⟩
    rw [eK 100 10 (by omega)]
    obtain ⟨N, hN⟩ : ∃ N, N = ro (unI K (nn p)) 100 10 (uhR (I 100 10) p 12) := ⟨_, rfl⟩
    rw [← hN]
    have e : ∀ b i, ¬ (b = 6 ∨ b = 2 ∨ (b = 100 ∧ (i = 10 ∨ i = 25)) ∨ (b = 101 ∧ i = 3) ∨ b = 8) → N b i = I b i := by
      intro b i h
      rw [← eK b i (by omega), hN, ro_ne (by omega)]
      funext f
      simp only [unI, rf_u3, thI]
      repeat (first | rw [if_neg (by omega)] | rfl)
    have e31 : N 8 0 31 = I 8 0 31 := by
      rw [← eK 8 0 (by omega), hN, ro_b (by decide)]
      simp [unI, rf_u3, thI]
    have e32 : N 8 0 32 = I 8 0 32 := by
      rw [← eK 8 0 (by omega), hN, ro_b (by decide)]
      simp [unI, rf_u3, thI]
    have e0 : N 8 0 0 = 0 := by
      rw [hN, ro_b (by decide)]
      simp [unI, rf_u3, thI]
    have n10 : N 100 10 = uhR (I 100 10) p 12 := by rw [hN, ro_self]
    have n25 : N 100 25 = uf (I 100 25) (nn p) 0 := by
      rw [← eK 100 25 (by omega), hN, ro_ne (by decide)]
      funext f
      simp [unI, rf_u3, thI, uf]
    have n3 : N 101 3 = uf (I 101 3) (nn p) 0 := by
      rw [← eK 101 3 (by omega), hN, ro_b (by decide)]
      funext f
      simp [unI, rf_u3, thI, uf]
    have k6 : ∀ t f, N 6 t f = if t = nn p ∧ (f = 1 ∨ f = 4) then 0 else I 6 t f := fun t f => by
      have : N 6 t f = K 6 t f := by
        rw [hN, ro_b (by decide)]
        simp [unI, rf_u3, thI]
      rw [this, hK, uhI, if_neg (by omega), rf_u3]
      by_cases z : t = nn p ∧ f = 4
      · rw [if_pos ⟨rfl, z⟩, if_pos ⟨z.1, Or.inr z.2⟩]
      · rw [if_neg (fun y => z y.2), rf_u3]
        by_cases z1 : t = nn p ∧ f = 1
        · rw [if_pos ⟨rfl, z1⟩, if_pos ⟨z1.1, Or.inl z1.2⟩]
        · rw [if_neg (fun y => z1 y.2), if_neg (by omega)]
    have k2 : ∀ t f, N 2 t f = if t < 12 ∧ f = 0 ∧ I 2 t 0 = p then -1 else I 2 t f := fun t f => by
      have : N 2 t f = K 2 t f := by
        rw [hN, ro_b (by decide)]
        simp [unI, rf_u3, thI]
      rw [this, hK, uhI]
      have i2 : ∀ f, rf_u3 (rf_u3 I 6 (nn p) 1 0) 6 (nn p) 4 0 2 t f = I 2 t f := fun f => by simp [rf_u3]
      rw [i2, i2]
      by_cases z : t < 12 ∧ f = 0 ∧ I 2 t 0 = p
      · rw [if_pos ⟨rfl, z⟩, if_pos z]
      · rw [if_neg (fun y => z y.2), if_neg z]
    have free : ∀ c, c < 8 → bsy (I 100 27 c) → ∀ m, m < mN I c → ¬ nn (mP I c 0 m) = nn p := by
      intro c hc b m hm z
      refine m2.2.2 c hc ⟨b, m, hm, ?_⟩
      rw [← nn_of ((hR.2.2.2.2.1 c hc).2.2 m hm).1.1, z, nn_of a1.1]
    refine q _ ?_ (funext fun i => e 200 i (by omega)) e0
    refine ⟨⟨?_, RB_fr hR.1.2.1 (fun p _ => e 0 (1 + p) (by omega)) (fun k _ _ => e 100 k (by omega)), ?_, RM_fr hR.1.2.2.2.1 (e 100 0 (by omega)) (e 100 1 (by omega)) (e 100 23 (by omega)) (e 100 24 (by omega)), RC_fr hR.1.2.2.2.2.1 (fun c _ => e 1 (40 + c) (by omega)) (fun c _ m _ => e 5 (4 * (40 + c) + m) (by omega)) hR.2.2.2.2.1 (fun k _ _ => e 100 k (by omega)), RG_fr hR.1.2.2.2.2.2.1 (e 100 2 (by omega)) (fun k _ _ => e 100 k (by omega)) (fun c _ hb => by rw [e 100 27 (by omega)] at hb; exact hb), RH_fr hR.1.2.2.2.2.2.2.1 (e 101 0 (by omega)) (e 101 4 (by omega)), RJ_fr hR.1.2.2.2.2.2.2.2 (funext fun i => e 3 i (by omega)) (congrFun (e 7 0 (by omega)) 11) (fun k _ => e 1 k (by omega)) (fun k _ => e 5 k (by omega)) (e 100 6 (by omega)) hR.2.2.2.2.2.2.2 e31 e32 (e 100 36 (by omega)) (e 100 37 (by omega))⟩, ?_, ?_, VB_fr hR.2.2.2.1 (fun k _ _ => e 100 k (by omega)), VC_fr hR.2.2.2.2.1 (fun k _ _ => e 100 k (by omega)), ?_, VS_fr hR.2.2.2.2.2.2.1 (fun k _ _ => e 100 k (by omega)) (e 100 24 (by omega)) (fun c _ hb => by rw [e 100 27 (by omega)]; exact hb), VJ_fr hR.2.2.2.2.2.2.2 (funext fun i => e 3 i (by omega)) (fun k _ => e 1 k (by omega)) (e 100 6 (by omega)) e31 (e 100 36 (by omega)) (e 100 37 (by omega))⟩
    · intro t ht f hf
      have := hR.1.1 t ht f hf
      have i0 : I 2 t 0 = I 100 10 t := hR.1.1 t ht 0 (by decide)
      rw [k2, i0]
      have nr : ∀ k, 11 ≤ k → k < 17 → N 100 k = I 100 k := fun k h1 h2 => e 100 k (by omega)
      have r10 : mD N t 0 = uhR (I 100 10) p 12 t := by
        show N 100 10 t = _
        rw [n10]
      by_cases z : f = 0
      · subst z
        rw [r10, uhR]
        by_cases w : I 100 10 t = p
        · rw [if_pos ⟨ht, rfl, w⟩, if_pos ⟨ht, w⟩]
        · rw [if_neg (fun y => w y.2.2), if_neg (fun y => w y.2)]
          exact i0
      · rw [if_neg (fun y => z y.2.1), this]
        rcases f9 hf with rfl | rfl | rfl | rfl | rfl | rfl | rfl | rfl | rfl
        · exact absurd rfl z
        · show I 100 11 t = N 100 11 t; rw [nr 11 (by omega) (by omega)]
        · show I 100 13 t = N 100 13 t; rw [nr 13 (by omega) (by omega)]
        · show I 101 1 t = N 101 1 t; rw [e 101 1 (by omega)]
        · show I 100 12 t = N 100 12 t; rw [nr 12 (by omega) (by omega)]
        · show I 100 14 t = N 100 14 t; rw [nr 14 (by omega) (by omega)]
        · show I 101 2 t = N 101 2 t; rw [e 101 2 (by omega)]
        · show I 100 15 t = N 100 15 t; rw [nr 15 (by omega) (by omega)]
        · show I 100 16 t = N 100 16 t; rw [nr 16 (by omega) (by omega)]
    · intro t ht
      obtain ⟨q1, q2, q3⟩ := hR.1.2.2.1 t ht
      have n6o : ∀ f, ¬ (f = 1 ∨ f = 4) → N 6 t f = I 6 t f := fun f hf => by rw [k6, if_neg (fun y => hf y.2)]
      have n61 : N 6 t 1 = if t = nn p then 0 else I 6 t 1 := by
        rw [k6]
        by_cases z : t = nn p <;> simp [z]
      have n64 : N 6 t 4 = if t = nn p then 0 else I 6 t 4 := by
        rw [k6]
        by_cases z : t = nn p <;> simp [z]
      have el : lea N t = lea I t := by
        unfold lea
        rw [n6o 3 (by decide), n6o 2 (by decide)]
      rw [n61, n64, el, n3, n25, e 100 26 (by omega)]
      unfold uf
      by_cases z : t = nn p
      · rw [if_pos z, if_pos z, if_pos z, if_pos z]
        exact ⟨rfl, rfl, fun y => absurd rfl y⟩
      · rw [if_neg z, if_neg z, if_neg z, if_neg z]
        exact ⟨q1, q2, q3⟩
    · intro t ht
      obtain ⟨⟨v1, v2, v3, v4⟩, v5, v6, v7⟩ := hR.2.1 t ht
      unfold mdOk
      rw [n10, n3, e 101 1 (by omega), e 100 11 (by omega), e 100 12 (by omega), e 100 14 (by omega), e 100 16 (by omega)]
      unfold uhR
      by_cases z : t < 12 ∧ I 100 10 t = p
      · rw [if_pos z]
        exact ⟨⟨Or.inl rfl, v2, v3, v4⟩, v5, fun y => absurd rfl y, v7⟩
      · rw [if_neg z]
        refine ⟨⟨v1, v2, v3, v4⟩, v5, fun y => ?_, v7⟩
        have o : ok (I 100 10 t) 6 := v1.elim (fun u => absurd u y) id
        unfold uf
        rw [if_neg]
        · exact v6 y
        · intro u
          refine z ⟨ht, ?_⟩
          rw [← nn_of o.1, u, nn_of a1.1]
    · intro t ht
      obtain ⟨v1, v2, v3, v4, v5⟩ := hR.2.2.1 t ht
      rw [e 100 23 (by omega), e 100 24 (by omega), n25, n3, n10]
      unfold uf
      by_cases z : t = nn p
      · rw [if_pos z, if_pos z]
        refine ⟨v1, v2, by decide, fun _ => ⟨?_, rfl⟩, fun y => absurd rfl y⟩
        rw [z]
        exact Int32.le_antisymm (i_nlt.mp m2.2.1) (hR.2.2.1 (nn p) a1.2).1.1
      · rw [if_neg z, if_neg z]
        refine ⟨v1, v2, v3, v4, fun y => ?_⟩
        obtain ⟨k, hk, ek⟩ := v5 y
        refine ⟨k, hk, ?_⟩
        unfold uhR
        rw [if_neg]
        · exact ek
        · intro u
          rw [ek] at u
          exact z ((of_nn a1 ht).mp u.2)
    · intro c hc b m hm
      rw [e 100 27 (by omega)] at b
      rw [mN_fr (e 100 29 (by omega))] at hm
      have fr := free c hc b m hm
      obtain ⟨h1, h2, h3, h4⟩ := hR.2.2.2.2.2.1 c hc b m hm
      have eP : ∀ c f m, f < 5 → mP N c f m = mP I c f m := fun c f m hf => mP_fr (fun k _ _ => e 100 k (by omega)) hf
      have eB : mB N c m = mB I c m := by
        unfold mB
        rw [e 100 35 (by omega)]
      rw [eP c 0 m (by decide), eP c 1 m (by decide), eB, e 100 23 (by omega), e 100 24 (by omega), n25, n3]
      unfold uf
      rw [if_neg fr, if_neg fr]
      refine ⟨h1, h2, h3, fun d hd hb j hj w => ?_⟩
      rw [e 100 27 (by omega)] at hb
      rw [mN_fr (e 100 29 (by omega))] at hj
      rw [eP d 0 j (by decide)] at w
      exact h4 d hd hb j hj w
end PG
