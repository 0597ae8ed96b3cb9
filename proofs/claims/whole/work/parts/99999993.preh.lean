/-! the calls side by side: rehearse -/
section PM
variable {l : Launch} {L : Nat} {I M I' M' N K : Nat → Nat → Nat → Int32} {J : Nat → Nat → Nat → Int64} {c : Nat}
theorem mayG_cg2 {P P' : Nat → Nat → Int32} {b b' a a' : Nat → Int32} {n m : Nat} (hP : ∀ f m, f < 5 → m < n → P f m = P' f m) (hb : ∀ m, m < n → b m = b' m) (hk : pOk P' n) (ha : ∀ p, p < 6 → a p = a' p) (hm : m < n) : mayG P b a m ↔ mayG P' b' a' m := by
  unfold mayG
  rw [hP 3 m (by decide) hm, hP 4 m (by decide) hm]
  by_cases e : P' 3 m = -1
  · exact ⟨fun _ => Or.inl e, fun _ => Or.inl e⟩
  · have o := (hk m hm).2 e
    have o2 : nn (P' 3 m) < m := o.2
    have o3 : nn (P' 3 m) < n := by omega
    rw [hP 1 _ (by decide) o3, hP 0 _ (by decide) o3, hb _ o3, ha (nn (P' 0 (nn (P' 3 m)))) (hk (nn (P' 3 m)) o3).1.2]
theorem advR_cg {P P' : Nat → Nat → Int32} {b b' : Nat → Int32} {h : Int32} {s : (Nat → Int32) × (Nat → Int32)} {n : Nat} (hP : ∀ f m, f < 5 → m < n → P f m = P' f m) (hb : ∀ m, m < n → b m = b' m) (hk : pOk P' n) : ∀ m, m ≤ n → advR P b h s m = advR P' b' h s m
  | 0, _ => rfl
  | m + 1, hm => by
    have ih := advR_cg (h := h) (s := s) hP hb hk m (by omega)
    rw [advR, advR, ih, hP 0 m (by decide) (by omega), hP 1 m (by decide) (by omega), hP 2 m (by decide) (by omega)]
    exact cif_cg (mayG_cg2 hP hb hk (fun _ _ => rfl) (by omega)) rfl rfl
/-- a tick of a rehearsal: speeds by piece, speeds by move -/
theorem adv_rm {P P' : Nat → Nat → Int32} {b b' : Nat → Int32} {s s' : (Nat → Int32) × (Nat → Int32)} {n : Nat} (hP : ∀ f m, f < 5 → m < n → P f m = P' f m) (hb : ∀ m, m < n → b m = b' m) (hk : pOk P' n) (hd : ∀ i j, i < n → j < n → nn (P' 0 i) = nn (P' 0 j) → i = j) (h1 : ∀ p, p < 6 → s.1 p = s'.1 p) (h2 : ∀ j, j < n → s.2 (nn (P' 0 j)) = s'.2 j) : ∀ m, m ≤ n → (∀ p, p < 6 → (advR P b 1 s m).1 p = (rm1 P' b' s' m).1 p) ∧ ∀ j, j < n → (advR P b 1 s m).2 (nn (P' 0 j)) = (rm1 P' b' s' m).2 j
  | 0, _ => ⟨h1, h2⟩
  | m + 1, hm => by
    obtain ⟨i1, i2⟩ := adv_rm hP hb hk hd h1 h2 m (by omega)
    have g := mayG_cg2 hP hb hk i1 (show m < n by omega)
    have p6 : nn (P' 0 m) < 6 := (hk m (by omega)).1.2
    rw [advR, rm1]
    by_cases q : mayG P' b' (rm1 P' b' s' m).1 m
    · rw [cif_t q, cif_t (g.mpr q), adv1, hP 0 m (by decide) (by omega), hP 1 m (by decide) (by omega), hP 2 m (by decide) (by omega), i1 _ p6, i2 m (by omega)]
      refine ⟨fun p hp => ?_, fun j hj => ?_⟩
      · show uf _ _ _ p = uf _ _ _ p
        unfold uf
        split
        · rfl
        · exact i1 p hp
      · show uf _ _ _ _ = uf _ _ _ j
        unfold uf
        by_cases e : j = m
        · rw [if_pos (by rw [e]), if_pos e]
        · rw [if_neg (fun w => e (hd j m hj (by omega) w)), if_neg e]
          exact i2 j hj
    · rw [cif_f q, cif_f fun w => q (g.mp w)]
      exact ⟨i1, i2⟩
/-- all at their goals: nothing moves -/
theorem rm1_stay {P : Nat → Nat → Int32} {b : Nat → Int32} {s : (Nat → Int32) × (Nat → Int32)} {n : Nat} (hP : ∀ m, m < n → ok (P 0 m) 6 ∧ ok (P 2 m) 13 ∧ pl (P 1 m)) (h1 : ∀ p, p < 6 → pl (s.1 p)) (h2 : ∀ j, ok (s.2 j) 13 ∨ n ≤ j) (hg : ∀ j, j < n → s.1 (nn (P 0 j)) = P 1 j) : ∀ m, m ≤ n → (rm1 P b s m).1 = s.1
  | 0, _ => rfl
  | m + 1, hm => by
    have ih := rm1_stay (b := b) hP h1 h2 hg m (by omega)
    have ov := (rm1_ok (b := b) hP h1 h2 m (by omega)).2 m
    rw [rm1]
    by_cases q : mayG P b (rm1 P b s m).1 m
    · rw [cif_t q]
      show uf _ _ _ = _
      rw [ih, hg m (by omega), Int32.sub_self]
      have z : ab 0 = 0 := by decide
      rw [z, adU_0 (ov.elim id fun w => absurd w (by omega)) (hP m (by omega)).2.1 (fun w => absurd w (by decide)), adP]
      have y : P 1 m + (if P 1 m < P 1 m then -0 else 0) = P 1 m := by
        rw [if_neg (i_nlt.mpr (Int32.le_refl _)), Int32.add_zero]
      rw [y]
      funext p
      unfold uf
      by_cases w : p = nn (P 0 m)
      · rw [if_pos w, w, hg m (by omega)]
      · rw [if_neg w]
    · rw [cif_f q]
      exact ih
theorem re_rm {P P' : Nat → Nat → Int32} {b b' : Nat → Int32} {s s' : (Nat → Int32) × (Nat → Int32)} {n : Nat} (hP : ∀ f m, f < 5 → m < n → P f m = P' f m) (hb : ∀ m, m < n → b m = b' m) (hk : pnOk P' n) (h1 : ∀ p, p < 6 → s.1 p = s'.1 p) (h2 : ∀ j, j < n → s.2 (nn (P' 0 j)) = s'.2 j) (h3 : ∀ p, p < 6 → pl (s'.1 p)) (h4 : ∀ j, ok (s'.2 j) 13 ∨ n ≤ j) : ∀ k, (∀ p, p < 6 → (reF P b n s k).1 p = (rmN P' b' n s' k).1 p) ∧ (allG P n (reF P b n s k).1 ∨ ∀ j, j < n → (reF P b n s k).2 (nn (P' 0 j)) = (rmN P' b' n s' k).2 j)
  | 0 => ⟨h1, Or.inr h2⟩
  | k + 1 => by
    obtain ⟨i1, i2⟩ := re_rm hP hb hk h1 h2 h3 h4 k
    have hk' : pOk P' n := fun m hm => ⟨(hk m hm).1, (hk m hm).2.2.2.1⟩
    have hd : ∀ i j, i < n → j < n → nn (P' 0 i) = nn (P' 0 j) → i = j := fun i j hi hj e => (hk j hj).2.2.2.2 i hi e
    have hP' : ∀ m, m < n → ok (P' 0 m) 6 ∧ ok (P' 2 m) 13 ∧ pl (P' 1 m) := fun m hm => ⟨(hk m hm).1, (hk m hm).2.1, (hk m hm).2.2.1⟩
    rw [reF, rmN]
    by_cases q : allG P n (reF P b n s k).1
    · rw [cif_t q]
      obtain ⟨o1, o2⟩ := rmN_ok (b := b') hP' h3 h4 k
      have st := rm1_stay (b := b') hP' o1 o2 (fun j hj => by
        have := q j hj
        rw [hP 0 j (by decide) hj, hP 1 j (by decide) hj] at this
        rw [← i1 (nn (P' 0 j)) (hP' j hj).1.2]
        exact this) n (Nat.le_refl _)
      rw [st]
      exact ⟨i1, Or.inl q⟩
    · rw [cif_f q]
      obtain ⟨g1, g2⟩ := adv_rm hP hb hk' hd i1 (i2.elim (fun w => absurd w q) id) n (Nat.le_refl _)
      exact ⟨g1, Or.inr g2⟩
theorem bgF_at {P a b : Nat → Int32} {p : Nat} : ∀ n, (∃ j, j < n ∧ nn (P j) = p) → bgF P a b n p = a p
  | 0, ⟨_, h, _⟩ => absurd h (by omega)
  | n + 1, ⟨j, h1, h2⟩ => by
    rw [bgF]
    unfold uf
    by_cases q : p = nn (P n)
    · rw [if_pos q, q]
    · rw [if_neg q]
      refine bgF_at n ⟨j, ?_, h2⟩
      have : ¬ j = n := fun e => q (by rw [← h2, e])
      omega
theorem p_rehearse {c p n : Int32} (hR : Rel I I) : rf_C l 161 [dk, .inl c, .inl p, .inl n] (sS L I J) (tpQ l L I 162 [mo, .inl c, .inl p, .inl n]) := by
  have hp : ∀ c, c < 8 → plOk I (40 + c) := fun c hc => plOk_of hR.1.2.2.2.2.1 hR.2.2.2.2.1 hc
  have hm : ∀ c, c < 8 → mpOk I c := fun c hc => mpOk_of hR.2.2.2.2.1 hc
  have h23 : ∀ p, p < 6 → pl (I 100 23 p) := fun p hp => (hR.2.2.1 p hp).1
  have hgl : ∀ c, c < 8 → ∀ m, m < mN I c → pl (mP I c 1 m) := fun c hc m hm => ((hR.2.2.2.2.1 c hc).2.2 m hm).2.2.1
  have ev : ok c 8 → (rhC I (40 + nn c) p ↔ mrC I (nn c) p) := by
    intro a1
    unfold rhC mrC hangs1
    rw [has_eq (c := nn c) hR.1.2.2.2.2.1 a1.2]
    obtain ⟨_, _, r3, r4⟩ := hR.1.2.2.2.2.1 (nn c) a1.2
    rw [r3]
    refine and_congr Iff.rfl ⟨fun q j hj => ?_, fun q j hj => ?_⟩
    · have := q j hj
      rw [r4 j hj 0 (by decide), (hR.1.2.2.1 (nn (mP I (nn c) 0 j)) ((hm (nn c) a1.2).2 j hj).1.2).1] at this
      exact this
    · rw [r4 j hj 0 (by decide)]
      have := q j hj
      rw [← (hR.1.2.2.1 (nn (mP I (nn c) 0 j)) ((hm (nn c) a1.2).2 j hj).1.2).1] at this
      exact this
  refine c_rehearse hp (fun a1 => ?_) (fun a1 a2 a3 s hs => ?_)
  · exact ⟨_, I, J, rfl, rfl, rfl, fun Q' q => d_rehearse hm h23 hgl (fun _ => q _ (Rel_th hR) th_200) (fun x y z _ _ => absurd ⟨x, y, (ev x).mpr z⟩ a1)⟩
  · have a3' := (ev a1).mp a3
    obtain ⟨k, hk⟩ : ∃ k, k = nn c := ⟨_, rfl⟩
    have k8 : k < 8 := by rw [hk]; exact a1.2
    rw [← hk] at a3' hs ⊢
    obtain ⟨K, hK⟩ : ∃ K, K = ms2 (rhI I (40 + k)) 1 s.1 s.2 := ⟨_, rfl⟩
    rw [← hK]
    have kI : ∀ b i, ¬ (b = 100 ∧ (i = 3 ∨ i = 4 ∨ i = 5)) → K b i = I b i := by
      intro b i h
      rw [hK, ms2, ro_ne (by omega), ro_ne (by omega), rhI, ro_ne (by omega), ms2, ro_ne (by omega), ro_ne (by omega)]
    have vK : VC K := VC_fr hR.2.2.2.2.1 (fun i h h' => kI 100 i (by omega))
    have eP : mP K k = mP I k := by
      funext f m
      show K 100 (30 + f) _ = I 100 (30 + f) _
      rw [kI 100 (30 + f) (by omega)]
    have eN : mN K k = mN I k := mN_fr (kI 100 29 (by omega))
    have mK : mrC K k p ↔ mrC I k p := by
      unfold mrC mHas
      rw [eP, eN, kI 101 3 (by omega)]
    have g23 : ∀ p, p < 6 → pl (K 100 23 p) := by rw [kI 100 23 (by omega)]; exact h23
    refine ⟨_, K, J, rfl, rfl, funext fun i => kI 200 i (by omega), fun Q' q => d_rehearse (fun c hc => mpOk_of vK hc) g23 (fun c hc m hm => ((vK c hc).2.2 m hm).2.2.1) (fun x => absurd ⟨a1, a2, ?_⟩ x) (fun _ _ _ s' hs' => ?_)⟩
    case refine_1 =>
      rw [← hk, eP, eN] at hs'
      have eG : mG K k = mG I k := by
        funext j
        unfold mG
        rw [eP, kI 100 23 (by omega)]
      have eS : mrS K = mrS I := by
        unfold mrS
        rw [kI 100 23 (by omega), kI 100 38 (by omega), kI 100 39 (by omega)]
      rw [eG, eS] at hs'
      obtain ⟨_, _, r3, r4⟩ := hR.1.2.2.2.2.1 k k8
      have pn := (hR.2.2.2.2.1 k k8).2.2
      rw [r3] at hs
      have ra : ∀ t, t < 6 → rhA I t = I 100 23 t := fun t ht => by
        unfold rhA
        rw [slR, if_pos ht, hR.1.2.2.2.1.1]
      have N5 : mN I k < 5 := (hR.2.2.2.2.1 k k8).2.1.2
      have re := (re_rm (P := pP I (40 + k)) (P' := mP I k) (b := rhB I (40 + k)) (b' := mG I k) (s := (rhA I, rhV I)) (s' := mrS I) (n := mN I k) (fun f m hf hm => r4 m hm f hf) (fun m hm => ?_) pn (fun t ht => ?_) (fun j hj => ?_) (fun t ht => ?_) (fun j => ?_) (nn n)).1
      · have pp : ok p 6 := by
          obtain ⟨m, hm1, hm2⟩ := a3'.1
          rw [← hm2]
          exact (pn m hm1).1
        have := re (nn p) pp.2
        have hs2 : s = reF (pP I (40 + k)) (rhB I (40 + k)) (mN I k) (rhA I, rhV I) (nn n) := hs
        rw [← hs2, ← hs'] at this
        rw [← this]
        have e : ∀ b i, ¬ ((b = 100 ∧ (i = 3 ∨ i = 4 ∨ i = 5 ∨ i = 38 ∨ i = 39)) ∨ b = 8) → rh2 (thI K 0) s' b i = I b i := by
          intro b i h
          rw [rh2, ro_ne (by omega), ro_ne (by omega), thI_b (by omega), kI b i (by omega)]
        have e31 : rh2 (thI K 0) s' 8 0 31 = I 8 0 31 := by rw [rh2_b (by decide), thI_8 (by decide), kI 8 0 (by omega)]
        have e32 : rh2 (thI K 0) s' 8 0 32 = I 8 0 32 := by rw [rh2_b (by decide), thI_8 (by decide), kI 8 0 (by omega)]
        exact q _ ⟨⟨RD_fr hR.1.1 (funext fun i => e 2 i (by omega)) (fun k _ _ => e 100 k (by omega)) (e 101 1 (by omega)) (e 101 2 (by omega)), RB_fr hR.1.2.1 (fun p _ => e 0 (1 + p) (by omega)) (fun k _ _ => e 100 k (by omega)), RP_fr hR.1.2.2.1 (funext fun i => e 6 i (by omega)) (e 100 25 (by omega)) (e 100 26 (by omega)) (e 101 3 (by omega)), RM_fr hR.1.2.2.2.1 (e 100 0 (by omega)) (e 100 1 (by omega)) (e 100 23 (by omega)) (e 100 24 (by omega)), RC_fr hR.1.2.2.2.2.1 (fun c _ => e 1 (40 + c) (by omega)) (fun c _ m _ => e 5 (4 * (40 + c) + m) (by omega)) hR.2.2.2.2.1 (fun k _ _ => e 100 k (by omega)), RG_fr hR.1.2.2.2.2.2.1 (e 100 2 (by omega)) (fun k _ _ => e 100 k (by omega)) (fun c _ hb => by rw [e 100 27 (by omega)] at hb; exact hb), RH_fr hR.1.2.2.2.2.2.2.1 (e 101 0 (by omega)) (e 101 4 (by omega)), RJ_fr hR.1.2.2.2.2.2.2.2 (funext fun i => e 3 i (by omega)) (congrFun (e 7 0 (by omega)) 11) (fun k _ => e 1 k (by omega)) (fun k _ => e 5 k (by omega)) (e 100 6 (by omega)) hR.2.2.2.2.2.2.2 e31 e32 (e 100 36 (by omega)) (e 100 37 (by omega))⟩, VD_fr hR.2.1 (e 100 10 (by omega)) (e 100 11 (by omega)) (e 100 12 (by omega)) (e 100 14 (by omega)) (e 100 16 (by omega)) (e 101 1 (by omega)) (e 101 3 (by omega)), VP_fr hR.2.2.1 (e 100 23 (by omega)) (e 100 24 (by omega)) (e 100 25 (by omega)) (e 101 3 (by omega)) (e 100 10 (by omega)), VB_fr hR.2.2.2.1 (fun k _ _ => e 100 k (by omega)), VC_fr hR.2.2.2.2.1 (fun k _ _ => e 100 k (by omega)), VA_fr hR.2.2.2.2.2.1 (fun k _ _ => e 100 k (by omega)) (e 100 23 (by omega)) (e 100 24 (by omega)) (e 100 25 (by omega)) (e 101 3 (by omega)) (fun c _ hb => by rw [e 100 27 (by omega)] at hb; exact hb), VS_fr hR.2.2.2.2.2.2.1 (fun k _ _ => e 100 k (by omega)) (e 100 24 (by omega)) (fun c _ hb => by rw [e 100 27 (by omega)]; exact hb), VJ_fr hR.2.2.2.2.2.2.2 (funext fun i => e 3 i (by omega)) (fun k _ => e 1 k (by omega)) (e 100 6 (by omega)) e31 (e 100 36 (by omega)) (e 100 37 (by omega))⟩ (funext fun i => e 200 i (by omega))
      · show rhG I (40 + k) (nn (pP I (40 + k) 0 m)) = I 100 23 (nn (mP I k 0 m))
        unfold rhG
        rw [r3]
        have e0 : pP I (40 + k) 0 m = mP I k 0 m := r4 m hm 0 (by decide)
        rw [bgF_at (nn (I 100 29 k)) ⟨m, hm, rfl⟩, e0]
        exact ra _ (pn m hm).1.2
      · show rhA I t = slR _ _ 6 t
        rw [ra t ht, slR, if_pos ht]
      · show slR (fun _ => 0) (I 100 4) 6 (nn (mP I k 0 j)) = slR (fun _ => 0) (I 100 39) 4 j
        have := (pn j hj).1.2
        have h6 : nn (mP I k 0 j) < 6 := this
        rw [slR, if_pos h6, slR, if_pos (by omega)]
      · show pl (slR _ _ 6 t)
        rw [slR, if_pos ht]
        exact h23 t ht
      · by_cases w : j < 4
        · refine Or.inl ?_
          show ok (slR _ _ 4 j) 13
          rw [slR, if_pos w]
          exact ⟨by decide, by decide⟩
        · exact Or.inr (by omega)
    case refine_2 =>
      rw [← hk]
      exact mK.mpr a3'
end PM
