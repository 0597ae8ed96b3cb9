/-! the calls side by side: hang -/
section PH
variable {l : Launch} {L : Nat} {I M I' M' : Nat → Nat → Nat → Int32} {J : Nat → Nat → Nat → Int64}
theorem i_1 {x : Int32} : 0 < x ↔ 1 ≤ x := by
  rw [Int32.lt_iff_toInt_lt, Int32.le_iff_toInt_le]
  have z0 : (0 : Int32).toInt = 0 := rfl
  have z1 : (1 : Int32).toInt = 1 := rfl
  omega
theorem i_4096 {x : Int32} : x < 4096 ↔ x ≤ 4095 := by
  rw [Int32.lt_iff_toInt_lt, Int32.le_iff_toInt_le]
  have z0 : (4096 : Int32).toInt = 4096 := rfl
  have z1 : (4095 : Int32).toInt = 4095 := rfl
  omega
theorem hg_eq {x w a b : Int32} : hgA x w a b ↔ hgM x w a b := by
  unfold hgA hgM
  rw [i_1, i_4096]
  constructor
  · rintro ⟨⟨h1, h2⟩, h3⟩
    rw [(ct_x h1).1] at h2
    exact ⟨⟨h1, h2⟩, h3⟩
  · rintro ⟨⟨h1, h2⟩, h3⟩
    rw [← (ct_x h1).1] at h2
    exact ⟨⟨h1, h2⟩, h3⟩
theorem hb_eq {x : Int32} {i : Nat} : hb x (Int32.ofNat i) ↔ ¬ btM x i = 0 := by
  unfold hb
  show btM x i = 1 ↔ _
  rcases and1 (x >>> (Int32.ofNat i &&& 31)) with q | q
  · have q' : btM x i = 0 := q
    rw [q']
    exact ⟨fun z => absurd z (by decide), fun z => absurd rfl z⟩
  · have q' : btM x i = 1 := q
    rw [q']
    exact ⟨fun _ => by decide, fun _ => rfl⟩
theorem hf_eq {x : Int32} {p : Nat} (hR : Rel I I) (hp : p < 6) : hgF I p x ↔ hfM I p x := by
  unfold hgF hfM
  rw [(hR.1.2.2.1 p hp).1]
  refine and_congr Iff.rfl ⟨fun q i hi => ?_, fun q i hi w => ?_⟩
  · by_cases z : btM x i = 0
    · exact Or.inl z
    · refine Or.inr ?_
      have := q i hi (hb_eq.mpr z)
      rw [hR.1.1 i hi 0 (by decide)] at this
      have this' : I 100 10 i = -1 := this
      rw [this']
      decide
  · rcases q i hi with z | z
    · exact absurd z (hb_eq.mp w)
    · rw [hR.1.1 i hi 0 (by decide)]
      exact (lt0 ((hR.2.1 i hi).1.1.elim Or.inl fun y => Or.inr y.1)).mp z
theorem p_hang {p x w a b : Int32} (hR : Rel I I) : rf_C l 26 [dk, .inl p, .inl x, .inl w, .inl a, .inl b] (sS L I J) (tpN l L I 33 [mo, .inl p, .inl x, .inl w, .inl a, .inl b]) := by
  have hx : hgM x w a b → ¬ onF x 32 = 0 := fun h q => by
    have := (ct_x (hg_eq.mpr h).1.1).2.1
    rw [q] at this
    exact absurd this (by decide)
  have RelT : ∀ g, Rel (ro I 0 0 g) (ro I 0 0 g) := fun g => by
    have e : ∀ b i, ¬ (b = 0 ∧ i = 0) → ro I 0 0 g b i = I b i := fun b i q => ro_ne (by omega)
    have e31 : ro I 0 0 g 8 0 31 = I 8 0 31 := by rw [e 8 0 (by omega)]
    have e32 : ro I 0 0 g 8 0 32 = I 8 0 32 := by rw [e 8 0 (by omega)]
    exact ⟨⟨RD_fr hR.1.1 (funext fun i => e 2 i (by omega)) (fun k _ _ => e 100 k (by omega)) (e 101 1 (by omega)) (e 101 2 (by omega)), RB_fr hR.1.2.1 (fun p _ => e 0 (1 + p) (by omega)) (fun k _ _ => e 100 k (by omega)), RP_fr hR.1.2.2.1 (funext fun i => e 6 i (by omega)) (e 100 25 (by omega)) (e 100 26 (by omega)) (e 101 3 (by omega)), RM_fr hR.1.2.2.2.1 (e 100 0 (by omega)) (e 100 1 (by omega)) (e 100 23 (by omega)) (e 100 24 (by omega)), RC_fr hR.1.2.2.2.2.1 (fun c _ => e 1 (40 + c) (by omega)) (fun c _ m _ => e 5 (4 * (40 + c) + m) (by omega)) hR.2.2.2.2.1 (fun k _ _ => e 100 k (by omega)), RG_fr hR.1.2.2.2.2.2.1 (e 100 2 (by omega)) (fun k _ _ => e 100 k (by omega)) (fun c _ hb => by rw [e 100 27 (by omega)] at hb; exact hb), RH_fr hR.1.2.2.2.2.2.2.1 (e 101 0 (by omega)) (e 101 4 (by omega)), RJ_fr hR.1.2.2.2.2.2.2.2 (funext fun i => e 3 i (by omega)) (congrFun (e 7 0 (by omega)) 11) (fun k _ => e 1 k (by omega)) (fun k _ => e 5 k (by omega)) (e 100 6 (by omega)) hR.2.2.2.2.2.2.2 e31 e32 (e 100 36 (by omega)) (e 100 37 (by omega))⟩, VD_fr hR.2.1 (e 100 10 (by omega)) (e 100 11 (by omega)) (e 100 12 (by omega)) (e 100 14 (by omega)) (e 100 16 (by omega)) (e 101 1 (by omega)) (e 101 3 (by omega)), VP_fr hR.2.2.1 (e 100 23 (by omega)) (e 100 24 (by omega)) (e 100 25 (by omega)) (e 101 3 (by omega)) (e 100 10 (by omega)), VB_fr hR.2.2.2.1 (fun k _ _ => e 100 k (by omega)), VC_fr hR.2.2.2.2.1 (fun k _ _ => e 100 k (by omega)), VA_fr hR.2.2.2.2.2.1 (fun k _ _ => e 100 k (by omega)) (e 100 23 (by omega)) (e 100 24 (by omega)) (e 100 25 (by omega)) (e 101 3 (by omega)) (fun c _ hb => by rw [e 100 27 (by omega)] at hb; exact hb), VS_fr hR.2.2.2.2.2.2.1 (fun k _ _ => e 100 k (by omega)) (e 100 24 (by omega)) (fun c _ hb => by rw [e 100 27 (by omega)]; exact hb), VJ_fr hR.2.2.2.2.2.2.2 (funext fun i => e 3 i (by omega)) (fun k _ => e 1 k (by omega)) (e 100 6 (by omega)) e31 (e 100 36 (by omega)) (e 100 37 (by omega))⟩
  have fit : ok p 6 → ∀ K : Nat → Nat → Nat → Int32, (∀ i, 10 ≤ i → K 100 i = I 100 i) → (∀ i, 1 ≤ i → K 101 i = I 101 i) → ((∀ i, i < 6 → tfit (ro I 0 0 (hgT I (nn p) a b)) p 0 i) ↔ ¬ ∃ j, j < 6 ∧ mAn (ht1 K (nn p) a b) p j) := by
    intro a1 K k100 k101
    obtain ⟨x0, x1, x2, x3, x4⟩ := hR.1.2.1 (nn p) a1.2
    have m0 : ∀ k f, 10 ≤ k → ¬ (k = 21 ∨ k = 22 ∨ k = 23) → ht1 K (nn p) a b 100 k f = I 100 k f := fun k f h q => by
      rw [← k100 k h]
      unfold ht1 thI
      rw [rf_u3, if_neg (by omega), rf_u3, if_neg (by omega), rf_u3, if_neg (by omega), rf_u3, if_neg (by omega)]
    have m1 : ∀ k f, 10 ≤ k → ¬ f = nn p → ht1 K (nn p) a b 100 k f = I 100 k f := fun k f h q => by
      rw [← k100 k h]
      unfold ht1 thI
      rw [rf_u3, if_neg (by omega), rf_u3, if_neg (by omega), rf_u3, if_neg (by omega), rf_u3, if_neg (by omega)]
    have m101 : ht1 K (nn p) a b 101 3 = I 101 3 := by
      unfold ht1
      rw [u3_b (by decide), u3_b (by decide), u3_b (by decide), thI_b (by decide)]
      exact k101 3 (by decide)
    have c0 : ∀ i, ¬ i = 0 → ro I 0 0 (hgT I (nn p) a b) 0 i = I 0 i := fun i q => ro_ne (by omega)
    have cb : ∀ c, ¬ c = 0 → ro I 0 0 (hgT I (nn p) a b) c = I c := fun c q => ro_b q
    refine fit_eq (I' := ro I 0 0 (hgT I (nn p) a b)) (M' := ht1 K (nn p) a b) (p := p) (a := 0) a1 ?_ ?_ ?_
    · rw [ro_self, m0 18 _ (by omega) (by omega), m0 19 _ (by omega) (by omega), m0 20 _ (by omega) (by omega), ← x2, ← x3, ← x4]
      refine ⟨?_, ?_, ?_, ?_, ?_⟩
      · simp [hgT, uf, ht1, rf_u3]
      · simp [hgT, uf, ht1, rf_u3]
      · simp [hgT, uf, t5]
      · simp [hgT, uf, t5]
      · simp [hgT, uf, t5]
    · simp [ht1, rf_u3]
    · intro i hi q
      obtain ⟨y0, y1, y2, y3, y4⟩ := hR.1.2.1 i hi
      rw [cb 6 (by decide), cb 100 (by decide), c0 (1 + i) (by omega), m1 23 i (by omega) q, m1 21 i (by omega) q, m1 22 i (by omega) q, m1 18 i (by omega) q, m1 19 i (by omega) q, m1 20 i (by omega) q, m101, hR.1.2.2.2.1.1]
      exact ⟨(hR.1.2.2.1 i hi).1, rfl, y0, y1, y2, y3, y4⟩
  refine e_hang (c_hang (fun a1 => ?_) (fun a1 a2 => ?_) (fun a1 a2 a3 => ?_) (fun a1 a2 a3 a4 => ?_) (fun a1 a2 a3 a4 => ?_))
  · exact ⟨1, I, J, rfl, rfl, rfl, fun Q' q => d_hang hx (fun _ => q _ (Rel_th hR) th_200 thI_0) (fun a _ => absurd a a1) (fun a _ _ => absurd a a1) (fun a _ _ _ => absurd a a1) (fun a _ _ _ => absurd a a1)⟩
  · rw [hg_eq] at a2
    exact ⟨2, I, J, rfl, rfl, rfl, fun Q' q => d_hang hx (fun a => absurd a1 a) (fun _ _ => q _ (Rel_th hR) th_200 thI_0) (fun _ a _ => absurd a a2) (fun _ a _ _ => absurd a a2) (fun _ a _ _ => absurd a a2)⟩
  · rw [hg_eq] at a2
    rw [hf_eq (p := nn p) hR a1.2] at a3
    exact ⟨3, I, J, rfl, rfl, rfl, fun Q' q => d_hang hx (fun a => absurd a1 a) (fun _ a => absurd a2 a) (fun _ _ _ => q _ (Rel_th hR) th_200 thI_0) (fun _ _ a _ => absurd a a3) (fun _ _ a _ => absurd a a3)⟩
  · rw [hg_eq] at a2
    rw [hf_eq (p := nn p) hR a1.2] at a3
    obtain ⟨K, hK⟩ : ∃ K, K = ro I 0 0 (hgT I (nn p) a b) := ⟨_, rfl⟩
    rw [fit a1 K (fun i _ => by rw [hK, ro_b (by decide)]) (fun i _ => by rw [hK, ro_b (by decide)])] at a4
    have rK : Rel K K := by rw [hK]; exact RelT _
    have f3 : hfM K (nn p) x := by
      unfold hfM
      rw [hK, ro_b (by decide), ro_b (by decide)]
      exact a3
    have z23 : rf_u3 K 100 23 (nn p) 0 = K := by
      have : K 100 23 (nn p) = 0 := ((rK.2.2.1 (nn p) a1.2).2.2.2.1 f3.1).1
      rw [← this, u3_id]
    rw [← hK]
    refine ⟨3, K, J, rfl, rfl, by rw [hK, ro_b (by decide)], fun Q' q => d_hang hx (fun a => absurd a1 a) (fun _ a => absurd a2 a) (fun _ _ a => absurd f3 a) (fun _ _ _ _ => ?_) (fun _ _ _ a => absurd a a4)⟩
    rw [z23]
    exact q _ (Rel_th rK) (th_200.trans (by rw [hK, ro_b (by decide)])) thI_0
  · have a2' := hg_eq.mp a2
    have a3' := (hf_eq hR a1.2).mp a3
    have p6 : nn p < 6 := a1.2
    obtain ⟨ct1, ct2, ct3⟩ := ct_x a2.1.1
    obtain ⟨K, hK⟩ : ∃ K, K = atI (hg5 I (nn p) x w a b) x p 12 := ⟨_, rfl⟩
    rw [← hK]
    have h5 : ∀ b' i, ¬ (b' = 0 ∨ b' = 6 ∨ (b' = 100 ∧ (i = 0 ∨ i = 1))) → hg5 I (nn p) x w a b b' i = I b' i := by
      intro b' i h
      unfold hg5 hg4 hg3
      rw [ms2, ro_ne (by omega), ro_ne (by omega), ro_ne (by omega), ro_ne (by omega), ro_ne (by omega)]
    have eK0 : ∀ b' i, ¬ b' = 2 → K b' i = hg5 I (nn p) x w a b b' i := by
      intro b' i h
      rw [hK]
      funext f
      rw [atI, cif_f (fun q => h q.1)]
    have eK : ∀ b' i, ¬ (b' = 0 ∨ b' = 6 ∨ b' = 2 ∨ (b' = 100 ∧ (i = 0 ∨ i = 1))) → K b' i = I b' i := fun b' i h => by rw [eK0 b' i (by omega), h5 b' i (by omega)]
    have f3 : hfM K (nn p) x := by
      unfold hfM
      rw [eK 101 3 (by omega), eK 100 10 (by omega)]
      exact a3'
    have m4 : ¬ ∃ j, j < 6 ∧ mAn (ht1 K (nn p) a b) p j := (fit a1 K (fun i h => eK 100 i (by omega)) (fun i h => eK 101 i (by omega))).mp a4
    refine ⟨0, K, J, rfl, rfl, funext fun i => eK 200 i (by omega), fun Q' q => d_hang hx (fun a => absurd a1 a) (fun _ a => absurd a2' a) (fun _ _ a => absurd f3 a) (fun _ _ _ a => absurd a m4) (fun _ _ _ _ => ?_)⟩
    obtain ⟨N, hN⟩ : ∃ N, N = mhA (ht2 K (nn p) x w a b) x p 12 := ⟨_, rfl⟩
    rw [← hN]
    -- the model's cells that are no drive's
    have N0 : ∀ b' i f, ¬ ((b' = 100 ∧ 10 ≤ i ∧ i ≤ 14) ∨ (b' = 101 ∧ i = 1)) → N b' i f = ht2 K (nn p) x w a b b' i f := by
      intro b' i f h
      have : mhV p b' i = none := by
        unfold mhV
        rw [if_neg (by omega), if_neg (by omega), if_neg (by omega)]
      rw [hN, mhA, this]
      by_cases z : f < 12 ∧ ¬ btM x f = 0
      · rw [if_pos z]
      · rw [if_neg z]
    have N1 : ∀ b' i f, ¬ (b' = 100 ∧ (i = 17 ∨ (21 ≤ i ∧ i ≤ 26 ∧ ¬ i = 27))) → ¬ (b' = 101 ∧ i = 3) → ¬ b' = 8 → ht2 K (nn p) x w a b b' i f = K b' i f := by
      intro b' i f h1 h2 h3
      unfold ht2 ht1 thI
      rw [rf_u3, if_neg (by omega), rf_u3, if_neg (by omega), rf_u3, if_neg (by omega), rf_u3, if_neg (by omega), rf_u3, if_neg (by omega), rf_u3, if_neg (by omega), rf_u3, if_neg (by omega), rf_u3, if_neg (by omega), rf_u3, if_neg (by omega)]
    have e : ∀ b' i, ¬ (b' = 0 ∨ b' = 6 ∨ b' = 2 ∨ (b' = 100 ∧ (i = 0 ∨ i = 1 ∨ (10 ≤ i ∧ i ≤ 14) ∨ i = 17 ∨ (21 ≤ i ∧ i ≤ 26))) ∨ (b' = 101 ∧ (i = 1 ∨ i = 3)) ∨ b' = 8) → N b' i = I b' i := by
      intro b' i h
      funext f
      rw [N0 b' i f (by omega), N1 b' i f (by omega) (by omega) (by omega), eK b' i (by omega)]
    have e31 : N 8 0 31 = I 8 0 31 := by
      rw [N0 8 0 31 (by omega), ← eK 8 0 (by omega)]
      simp [ht2, ht1, thI, rf_u3]
    have e32 : N 8 0 32 = I 8 0 32 := by
      rw [N0 8 0 32 (by omega), ← eK 8 0 (by omega)]
      simp [ht2, ht1, thI, rf_u3]
    have e0 : N 8 0 0 = 0 := by
      rw [N0 8 0 0 (by omega)]
      simp [ht2, ht1, thI, rf_u3]
    have nu : ∀ k y, (k = 21 ∧ y = a) ∨ (k = 22 ∧ y = b) ∨ (k = 23 ∧ y = 0) ∨ (k = 24 ∧ y = 0) ∨ (k = 25 ∧ y = 0) ∨ (k = 26 ∧ y = w / onF x 32) → N 100 k = uf (I 100 k) (nn p) y := by
      intro k y z
      funext f
      rw [N0 100 k f (by omega), ← eK 100 k (by omega)]
      unfold ht2 ht1 thI uf
      rcases z with ⟨rfl, rfl⟩ | ⟨rfl, rfl⟩ | ⟨rfl, rfl⟩ | ⟨rfl, rfl⟩ | ⟨rfl, rfl⟩ | ⟨rfl, rfl⟩ <;> simp [rf_u3]
    have n3 : N 101 3 = uf (I 101 3) (nn p) 1 := by
      funext f
      rw [N0 101 3 f (by omega), ← eK 101 3 (by omega)]
      unfold ht2 ht1 thI uf
      simp [rf_u3]
    have nd : ∀ i, 10 ≤ i → i ≤ 14 → ∀ t, t < 12 → N 100 i t = if btM x t = 0 then I 100 i t else (if i = 10 then p else 0) := by
      intro i h1 h2 t ht
      rw [hN, mhA]
      by_cases z : btM x t = 0
      · rw [if_neg (fun y => y.2 z), if_pos z]
        show ht2 K (nn p) x w a b 100 i t = _
        rw [N1 100 i t (by omega) (by omega) (by omega), eK 100 i (by omega)]
      · rw [if_pos ⟨ht, z⟩, if_neg z]
        unfold mhV
        by_cases y : i = 10
        · rw [if_pos ⟨rfl, y⟩, if_pos y]
        · rw [if_neg (fun u => y u.2), if_pos (by omega), if_neg y]
    have nb : ∀ t, t < 12 → N 101 1 t = if btM x t = 0 then I 101 1 t else 0 := by
      intro t ht
      rw [hN, mhA]
      by_cases z : btM x t = 0
      · rw [if_neg (fun y => y.2 z), if_pos z]
        show ht2 K (nn p) x w a b 101 1 t = _
        rw [N1 101 1 t (by omega) (by omega) (by omega), eK 101 1 (by omega)]
      · rw [if_pos ⟨ht, z⟩, if_neg z]
        unfold mhV
        rw [if_neg (by omega), if_neg (by omega), if_pos ⟨rfl, rfl⟩]
    -- the class's cells
    have NK : ∀ b' i, ¬ (b' = 100 ∧ 10 ≤ i) → ¬ (b' = 101 ∧ 1 ≤ i) → ¬ b' = 8 → N b' i = K b' i := by
      intro b' i h1 h2 h3
      funext f
      rw [N0 b' i f (by omega), N1 b' i f (by omega) (by omega) (by omega)]
    have k2 : ∀ t, t < 12 → ∀ f, N 2 t f = if btM x t = 0 then I 2 t f else atR (I 2 t) p f := by
      intro t ht f
      have h2 : hg5 I (nn p) x w a b 2 t = I 2 t := h5 2 t (by omega)
      rw [NK 2 t (by omega) (by omega) (by omega), hK, atI]
      by_cases z : btM x t = 0
      · rw [cif_f (fun y => hb_eq.mp y.2.2 z), if_pos z, h2]
      · rw [cif_t ⟨rfl, ht, hb_eq.mpr z⟩, if_neg z, h2]
    have k0 : ∀ t, N 0 (1 + t) = if t = nn p then t5 (I 0 (1 + nn p)) (hgT I (nn p) a b) else I 0 (1 + t) := by
      intro t
      rw [NK 0 (1 + t) (by omega) (by omega) (by omega), eK0 0 (1 + t) (by omega)]
      unfold hg5 hg4 hg3
      rw [ms2_b (by decide)]
      by_cases z : t = nn p
      · rw [if_pos z, z, ro_self]
      · rw [if_neg z, ro_ne (by omega), ro_ne (by omega), ro_ne (by omega)]
    have k6 : ∀ t, N 6 t = if t = nn p then uf (uf (uf (I 6 (nn p)) 1 1) 2 w) 3 (bct x) else I 6 t := by
      intro t
      rw [NK 6 t (by omega) (by omega) (by omega), eK0 6 t (by omega)]
      unfold hg5 hg4 hg3
      rw [ms2_b (by decide), ro_ne (by omega)]
      by_cases z : t = nn p
      · rw [if_pos z, z, ro_self]
      · rw [if_neg z, ro_ne (by omega), ro_ne (by omega)]
    have c0 : N 100 0 = uf (I 100 0) (nn p) 0 := by
      rw [NK 100 0 (by omega) (by omega) (by omega), eK0 100 0 (by omega)]
      exact ms2_a (i := 0)
    have c1 : N 100 1 = uf (I 100 1) (nn p) 0 := by
      rw [NK 100 1 (by omega) (by omega) (by omega), eK0 100 1 (by omega)]
      exact ms2_v (i := 0)
    have p0 := (hR.2.2.1 (nn p) p6).2.2.2.1 a3'.1
    have free : ∀ c, c < 8 → bsy (I 100 27 c) → ∀ m, m < mN I c → ¬ nn (mP I c 0 m) = nn p := by
      intro c hc y m hm z
      have := (hR.2.2.2.2.2.1 c hc y m hm).1
      rw [z] at this
      exact this a3'.1
    refine q _ ?_ (funext fun i => e 200 i (by omega)) e0
    refine ⟨⟨?_, ?_, ?_, ?_, RC_fr hR.1.2.2.2.2.1 (fun c _ => e 1 (40 + c) (by omega)) (fun c _ m _ => e 5 (4 * (40 + c) + m) (by omega)) hR.2.2.2.2.1 (fun k _ _ => e 100 k (by omega)), RG_fr hR.1.2.2.2.2.2.1 (e 100 2 (by omega)) (fun k _ _ => e 100 k (by omega)) (fun c _ hb => by rw [e 100 27 (by omega)] at hb; exact hb), RH_fr hR.1.2.2.2.2.2.2.1 (e 101 0 (by omega)) (e 101 4 (by omega)), RJ_fr hR.1.2.2.2.2.2.2.2 (funext fun i => e 3 i (by omega)) (congrFun (e 7 0 (by omega)) 11) (fun k _ => e 1 k (by omega)) (fun k _ => e 5 k (by omega)) (e 100 6 (by omega)) hR.2.2.2.2.2.2.2 e31 e32 (e 100 36 (by omega)) (e 100 37 (by omega))⟩, ?_, ?_, ?_, VC_fr hR.2.2.2.2.1 (fun k _ _ => e 100 k (by omega)), ?_, ?_, VJ_fr hR.2.2.2.2.2.2.2 (funext fun i => e 3 i (by omega)) (fun k _ => e 1 k (by omega)) (e 100 6 (by omega)) e31 (e 100 36 (by omega)) (e 100 37 (by omega))⟩
    · intro t ht f hf
      have := hR.1.1 t ht f hf
      rw [k2 t ht]
      have o15 : N 100 15 t = I 100 15 t := by rw [e 100 15 (by omega)]
      have o16 : N 100 16 t = I 100 16 t := by rw [e 100 16 (by omega)]
      have o2 : N 101 2 t = I 101 2 t := by rw [e 101 2 (by omega)]
      by_cases z : btM x t = 0
      · rw [if_pos z, this]
        rcases f9 hf with rfl | rfl | rfl | rfl | rfl | rfl | rfl | rfl | rfl
        · show I 100 10 t = N 100 10 t; rw [nd 10 (by omega) (by omega) t ht, if_pos z]
        · show I 100 11 t = N 100 11 t; rw [nd 11 (by omega) (by omega) t ht, if_pos z]
        · show I 100 13 t = N 100 13 t; rw [nd 13 (by omega) (by omega) t ht, if_pos z]
        · show I 101 1 t = N 101 1 t; rw [nb t ht, if_pos z]
        · show I 100 12 t = N 100 12 t; rw [nd 12 (by omega) (by omega) t ht, if_pos z]
        · show I 100 14 t = N 100 14 t; rw [nd 14 (by omega) (by omega) t ht, if_pos z]
        · exact o2.symm
        · exact o15.symm
        · exact o16.symm
      · rw [if_neg z]
        have i6 : I 2 t 6 = I 101 2 t := hR.1.1 t ht 6 (by decide)
        have i7 : I 2 t 7 = I 100 15 t := hR.1.1 t ht 7 (by decide)
        have i8 : I 2 t 8 = I 100 16 t := hR.1.1 t ht 8 (by decide)
        rcases f9 hf with rfl | rfl | rfl | rfl | rfl | rfl | rfl | rfl | rfl
        · show p = N 100 10 t; rw [nd 10 (by omega) (by omega) t ht, if_neg z, if_pos rfl]
        · show (0 : Int32) = N 100 11 t; rw [nd 11 (by omega) (by omega) t ht, if_neg z, if_neg (by omega)]
        · show (0 : Int32) = N 100 13 t; rw [nd 13 (by omega) (by omega) t ht, if_neg z, if_neg (by omega)]
        · show (0 : Int32) = N 101 1 t; rw [nb t ht, if_neg z]
        · show (0 : Int32) = N 100 12 t; rw [nd 12 (by omega) (by omega) t ht, if_neg z, if_neg (by omega)]
        · show (0 : Int32) = N 100 14 t; rw [nd 14 (by omega) (by omega) t ht, if_neg z, if_neg (by omega)]
        · show I 2 t 6 = N 101 2 t; rw [i6, o2]
        · show I 2 t 7 = N 100 15 t; rw [i7, o15]
        · show I 2 t 8 = N 100 16 t; rw [i8, o16]
    · intro t ht
      obtain ⟨x0, x1, x2, x3, x4⟩ := hR.1.2.1 t ht
      rw [k0, nu 21 a (by simp), nu 22 b (by simp), e 100 18 (by omega), e 100 19 (by omega), e 100 20 (by omega)]
      unfold uf
      by_cases z : t = nn p
      · subst z
        rw [if_pos rfl, if_pos rfl, if_pos rfl, ← x2, ← x3, ← x4]
        simp [t5, hgT, uf]
      · rw [if_neg z, if_neg z, if_neg z]
        exact ⟨x0, x1, x2, x3, x4⟩
    · intro t ht
      obtain ⟨q1, q2, q3⟩ := hR.1.2.2.1 t ht
      unfold lea
      rw [k6, n3, nu 25 0 (by simp), nu 26 (w / onF x 32) (by simp)]
      by_cases z : t = nn p
      · subst z
        rw [if_pos rfl]
        refine ⟨by simp [uf], ?_, fun _ => ?_⟩
        · show I 6 (nn p) 4 = _
          rw [q2, p0.2]
          simp [uf]
        · show (if 0 < bct x then w / bct x else 0) = _
          rw [ct1, if_pos ct2]
          simp [uf]
      · rw [if_neg z]
        unfold uf
        rw [if_neg z, if_neg z, if_neg z]
        exact ⟨q1, q2, q3⟩
    · refine ⟨?_, ?_⟩
      · rw [c0, nu 23 0 (by simp), hR.1.2.2.2.1.1]
      · rw [c1, nu 24 0 (by simp), hR.1.2.2.2.1.2]
    · intro t ht
      obtain ⟨⟨v1, v2, v3, v4⟩, v5, v6, v7⟩ := hR.2.1 t ht
      unfold mdOk
      rw [nd 10 (by omega) (by omega) t ht, nd 11 (by omega) (by omega) t ht, nd 12 (by omega) (by omega) t ht, nd 14 (by omega) (by omega) t ht, nb t ht, e 100 16 (by omega), n3]
      by_cases z : btM x t = 0
      · rw [if_pos z, if_pos z, if_pos z, if_pos z, if_pos z]
        refine ⟨⟨v1, v2, v3, v4⟩, v5, fun y => ?_, v7⟩
        unfold uf
        split
        · decide
        · exact v6 y
      · rw [if_neg z, if_neg z, if_neg z, if_neg z, if_neg z, if_pos rfl, if_neg (by omega), if_neg (by omega), if_neg (by omega)]
        refine ⟨⟨Or.inr a1, Or.inl rfl, ⟨by decide, by decide⟩, ⟨by decide, by decide⟩⟩, v5, fun _ => ?_, ⟨by decide, by decide⟩⟩
        unfold uf
        rw [if_pos rfl]
        decide
    · intro t ht
      obtain ⟨v1, v2, v3, v4, v5⟩ := hR.2.2.1 t ht
      rw [nu 23 0 (by simp), nu 24 0 (by simp), nu 25 0 (by simp), n3]
      unfold uf
      by_cases z : t = nn p
      · rw [if_pos z, if_pos z, if_pos z, if_pos z]
        refine ⟨⟨by decide, by decide⟩, ⟨by decide, by decide⟩, by decide, fun y => absurd y (by decide), fun _ => ?_⟩
        obtain ⟨k, hk, ek⟩ := ct3
        refine ⟨k, hk, ?_⟩
        rw [nd 10 (by omega) (by omega) k hk, if_neg ek, if_pos rfl, z, nn_of a1.1]
      · rw [if_neg z, if_neg z, if_neg z, if_neg z]
        refine ⟨v1, v2, v3, v4, fun y => ?_⟩
        obtain ⟨k, hk, ek⟩ := v5 y
        refine ⟨k, hk, ?_⟩
        rw [nd 10 (by omega) (by omega) k hk]
        by_cases u : btM x k = 0
        · rw [if_pos u]; exact ek
        · have := (a3'.2 k hk).elim (fun v => absurd v u) id
          rw [ek] at this
          exact absurd this (i_nlt.mpr ((nt_le (i := 0) (n := t) (by omega) (by omega)).mpr (by omega)))
    · intro t ht
      obtain ⟨v1, v2, v3, v4, v5⟩ := hR.2.2.2.1 t ht
      rw [e 100 18 (by omega), e 100 19 (by omega), e 100 20 (by omega), nu 21 a (by simp), nu 22 b (by simp)]
      unfold uf
      by_cases z : t = nn p
      · rw [if_pos z, if_pos z]
        exact ⟨v1, v2, v3, a2.2.2.1, a2.2.2.2⟩
      · rw [if_neg z, if_neg z]
        exact ⟨v1, v2, v3, v4, v5⟩
    · intro c hc y m hm
      rw [e 100 27 (by omega)] at y
      rw [mN_fr (e 100 29 (by omega))] at hm
      have fr := free c hc y m hm
      obtain ⟨h1, h2, h3, h4⟩ := hR.2.2.2.2.2.1 c hc y m hm
      have eP : ∀ c f m, f < 5 → mP N c f m = mP I c f m := fun c f m hf => mP_fr (fun k _ _ => e 100 k (by omega)) hf
      have eB : mB N c m = mB I c m := by
        unfold mB
        rw [e 100 35 (by omega)]
      rw [eP c 0 m (by decide), eP c 1 m (by decide), eB, nu 23 0 (by simp), nu 24 0 (by simp), nu 25 0 (by simp), n3]
      unfold uf
      rw [if_neg fr, if_neg fr, if_neg fr, if_neg fr]
      refine ⟨h1, h2, h3, fun d hd hb j hj w => ?_⟩
      rw [e 100 27 (by omega)] at hb
      rw [mN_fr (e 100 29 (by omega))] at hj
      rw [eP d 0 j (by decide)] at w
      exact h4 d hd hb j hj w
    · intro t ht y
      rw [nu 24 0 (by simp)]
      unfold uf
      by_cases z : t = nn p
      · rw [if_pos z]
      · rw [if_neg z]
        refine hR.2.2.2.2.2.2.1 t ht fun c hc u m hm => ?_
        have := y c hc (by rw [e 100 27 (by omega)]; exact u) m (by rw [mN_fr (e 100 29 (by omega))]; exact hm)
        rw [mP_fr (fun k _ _ => e 100 k (by omega)) (by decide)] at this
        exact this
end PH
