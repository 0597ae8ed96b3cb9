/-! the calls side by side: arm -/
section QG
variable {l : Launch} {L : Nat} {I M A B N K : Nat → Nat → Nat → Int32} {J : Nat → Nat → Nat → Int64} {c : Int32}
theorem ar_eq (hR : Rel I I) {k : Nat} (k8 : k < 8) : arC I k ↔ marC I k := by
  have rc := hR.1.2.2.2.2.1
  obtain ⟨_, _, r3, r4⟩ := rc k k8
  unfold arC marC
  rw [busy_eq rc k8, r3]
  refine and_congr Iff.rfl (and_congr Iff.rfl ⟨fun q j hj => ?_, fun q j hj => ?_⟩)
  · obtain ⟨q1, q2, q3⟩ := q j hj
    have p6 := ((hR.2.2.2.2.1 k k8).2.2 j hj).1.2
    have e := r4 j hj 0 (by decide)
    unfold hangs1 at q1
    rw [e] at q1 q2 q3
    obtain ⟨g1, g2, _⟩ := hR.1.2.2.1 (nn (mP I k 0 j)) p6
    rw [g1] at q1
    rw [g2] at q2
    exact ⟨q1, q2, fun o ho w => q3 o ho ((bz_eq rc ho).mpr w)⟩
  · obtain ⟨q1, q2, q3⟩ := q j hj
    have p6 := ((hR.2.2.2.2.1 k k8).2.2 j hj).1.2
    have e := r4 j hj 0 (by decide)
    obtain ⟨g1, g2, _⟩ := hR.1.2.2.1 (nn (mP I k 0 j)) p6
    unfold rdy hangs1
    rw [e, g1, g2]
    exact ⟨q1, q2, fun o ho w => q3 o ho ((bz_eq rc ho).mp w)⟩
theorem arm_rel (hR : Rel I I) {k : Nat} (k8 : k < 8) (hm : marC I k) {x : Int32}
    (e : ∀ b i, ¬ ((b = 1 ∧ i = 40 + k) ∨ (b = 100 ∧ (i = 2 ∨ i = 7 ∨ i = 8 ∨ i = 9 ∨ i = 27 ∨ i = 35 ∨ i = 38)) ∨ b = 8) → N b i = I b i) (e31 : N 8 0 31 = I 8 0 31) (e32 : N 8 0 32 = I 8 0 32)
    (n2 : N 100 2 = bgF (pP I (40 + k) 0) (I 100 0) (I 100 2) (mN I k)) (n27 : N 100 27 = uf (I 100 27) k x) (n1 : ∀ f, N 1 (40 + k) f = if f = 3 then x else I 1 (40 + k) f)
    (nb1 : ∀ m, m < mN I k → mB N k m = I 100 23 (nn (mP I k 0 m))) (nb2 : ∀ d, d < 8 → ¬ d = k → ∀ m, m < 4 → mB N d m = mB I d m) : Rel N N := by
  have rc := hR.1.2.2.2.2.1
  have vc := hR.2.2.2.2.1
  have va := hR.2.2.2.2.2.1
  have eP : ∀ d f m, f < 5 → mP N d f m = mP I d f m := fun d f m hf => mP_fr (fun i _ _ => e 100 i (by omega)) hf
  have eN : ∀ d, mN N d = mN I d := fun d => mN_fr (e 100 29 (by omega))
  have n5 : ∀ d, d < 8 → mN I d < 5 := fun d hd => (vc d hd).2.1.2
  have pn : ∀ d, d < 8 → pnOk (mP I d) (mN I d) := fun d hd => (vc d hd).2.2
  have acN : ∀ d, bsy (N 100 27 d) → ¬ d = k → bsy (I 100 27 d) := fun d q w => by
    rw [n27, uf, if_neg w] at q
    exact q
  have acI : ∀ d, bsy (I 100 27 d) → ¬ d = k ∧ bsy (N 100 27 d) := fun d q => by
    have w : ¬ d = k := fun z => hm.1 (z ▸ q)
    refine ⟨w, ?_⟩
    rw [n27, uf, if_neg w]
    exact q
  have free : ∀ d, d < 8 → bsy (I 100 27 d) → ∀ m, m < mN I d → ∀ j, j < mN I k → ¬ nn (mP I k 0 j) = nn (mP I d 0 m) := by
    intro d hd q m hmd j hj w
    refine (hm.2.2 j hj).2.2 d hd ⟨q, m, hmd, ?_⟩
    exact nnq ((pn d hd) m hmd).1.1 ((pn k k8) j hj).1.1 w.symm
  have pPe : ∀ j, j < mN I k → pP I (40 + k) 0 j = mP I k 0 j := fun j hj => (rc k k8).2.2.2 j hj 0 (by decide)
  refine ⟨⟨RD_fr hR.1.1 (funext fun i => e 2 i (by omega)) (fun k _ _ => e 100 k (by omega)) (e 101 1 (by omega)) (e 101 2 (by omega)), RB_fr hR.1.2.1 (fun p _ => e 0 (1 + p) (by omega)) (fun k _ _ => e 100 k (by omega)), RP_fr hR.1.2.2.1 (funext fun i => e 6 i (by omega)) (e 100 25 (by omega)) (e 100 26 (by omega)) (e 101 3 (by omega)), RM_fr hR.1.2.2.2.1 (e 100 0 (by omega)) (e 100 1 (by omega)) (e 100 23 (by omega)) (e 100 24 (by omega)), ?_, ?_, RH_fr hR.1.2.2.2.2.2.2.1 (e 101 0 (by omega)) (e 101 4 (by omega)), RJ_fr hR.1.2.2.2.2.2.2.2 (funext fun i => e 3 i (by omega)) (congrFun (e 7 0 (by omega)) 11) (fun k _ => e 1 k (by omega)) (fun k _ => e 5 k (by omega)) (e 100 6 (by omega)) hR.2.2.2.2.2.2.2 e31 e32 (e 100 36 (by omega)) (e 100 37 (by omega))⟩, VD_fr hR.2.1 (e 100 10 (by omega)) (e 100 11 (by omega)) (e 100 12 (by omega)) (e 100 14 (by omega)) (e 100 16 (by omega)) (e 101 1 (by omega)) (e 101 3 (by omega)), VP_fr hR.2.2.1 (e 100 23 (by omega)) (e 100 24 (by omega)) (e 100 25 (by omega)) (e 101 3 (by omega)) (e 100 10 (by omega)), VB_fr hR.2.2.2.1 (fun k _ _ => e 100 k (by omega)), VC_fr hR.2.2.2.2.1 (fun k _ _ => e 100 k (by omega)), ?_, ?_, VJ_fr hR.2.2.2.2.2.2.2 (funext fun i => e 3 i (by omega)) (fun k _ => e 1 k (by omega)) (e 100 6 (by omega)) e31 (e 100 36 (by omega)) (e 100 37 (by omega))⟩
  · intro d hd
    obtain ⟨h1, h2, h3, h4⟩ := rc d hd
    have p5 : ∀ m, m < mN N d → ∀ f, f < 5 → N 5 (4 * (40 + d) + m) f = mP N d f m := fun m hmd f hf => by
      rw [eN] at hmd
      rw [e 5 _ (by omega), eP d f m hf]
      exact h4 m hmd f hf
    by_cases q : d = k
    · subst q
      rw [n1, n1, n1, if_pos rfl, if_neg (by decide), if_neg (by decide), n27, uf, if_pos rfl, e 100 28 (by omega), e 100 29 (by omega)]
      exact ⟨rfl, h2, h3, p5⟩
    · rw [e 1 _ (by omega), n27, uf, if_neg q, e 100 28 (by omega), e 100 29 (by omega)]
      exact ⟨h1, h2, h3, p5⟩
  · intro d hd bd m hmd
    rw [eN] at hmd
    have n4 := n5 d hd
    rw [n2, eP d 0 m (by decide)]
    by_cases q : d = k
    · subst q
      rw [nb1 m hmd, bgF_at (mN I d) ⟨m, hmd, by rw [pPe m hmd]⟩, hR.1.2.2.2.1.1]
    · have bi := acN d bd q
      rw [nb2 d hd q m (by omega), bgF_ne (mN I k) (fun j hj w => free d hd bi m hmd j hj (by rw [pPe j hj] at w; exact w))]
      exact hR.1.2.2.2.2.2.1 d hd bi m hmd
  · intro d hd bd m hmd
    rw [eN] at hmd
    have n4 := n5 d hd
    rw [eP d 0 m (by decide), eP d 1 m (by decide), e 101 3 (by omega), e 100 25 (by omega), e 100 23 (by omega), e 100 24 (by omega)]
    by_cases q : d = k
    · subst q
      obtain ⟨r1, r2, r3⟩ := hm.2.2 m hmd
      have p6 : nn (mP I d 0 m) < 6 := (pn d hd m hmd).1.2
      have v0 : I 100 24 (nn (mP I d 0 m)) = 0 := hR.2.2.2.2.2.2.1 _ p6 fun o ho bo j hj w => free o ho bo j hj m hmd w.symm
      rw [nb1 m hmd, v0]
      refine ⟨r1, r2, ⟨by omega, ?_⟩, fun o ho bo j hj w => ?_⟩
      · have := (ab_i (hR.2.2.1 _ p6).1 (pn d hd m hmd).2.2.1).1
        exact this
      · rw [eN] at hj
        rw [eP o 0 j (by decide)] at w
        by_cases z : o = d
        · exact z
        · exact absurd w.symm (free o ho (acN o bo z) j hj m hmd)
    · have bi := acN d bd q
      obtain ⟨g1, g2, g3, g4⟩ := va d hd bi m hmd
      rw [nb2 d hd q m (by omega)]
      refine ⟨g1, g2, g3, fun o ho bo j hj w => ?_⟩
      rw [eN] at hj
      rw [eP o 0 j (by decide)] at w
      by_cases z : o = k
      · subst z
        exact absurd w (free d hd bi m hmd j hj)
      · exact g4 o ho (acN o bo z) j hj w
  · intro p hp w
    rw [e 100 24 (by omega)]
    refine hR.2.2.2.2.2.2.1 p hp fun d hd bd m hmd => ?_
    have := w d hd (acI d bd).2 m (by rw [eN]; exact hmd)
    rw [eP d 0 m (by decide)] at this
    exact this
theorem p_arm {c : Int32} (hR : Rel I I) : rf_C l 83 [dk, .inl c, ol] (sS L I J) (tpV l L I 90 [mo, .inl c]) := by
  have rc := hR.1.2.2.2.2.1
  have hp : ∀ c, c < 8 → plOk I (40 + c) := fun c hc => plOk_of rc hR.2.2.2.2.1 hc
  have hm : ∀ c, c < 8 → mpOk I c := fun c hc => mpOk_of hR.2.2.2.2.1 hc
  have h23 : ∀ p, p < 6 → pl (I 100 23 p) := fun p hp => (hR.2.2.1 p hp).1
  have hgl : ∀ c, c < 8 → ∀ m, m < mN I c → pl (mP I c 1 m) := fun c hc m hm => ((hR.2.2.2.2.1 c hc).2.2 m hm).2.2.1
  have ae : ok c 8 → (arC I (nn c) ↔ marC I (nn c)) := fun a => ar_eq hR a.2
  -- the class's rows behind it
  have A0 : ∀ b i, ¬ (b = 100 ∧ (i = 2 ∨ i = 7 ∨ i = 8 ∨ i = 9)) → arM I c b i = I b i := by
    intro b i h
    rw [arM, m3, ro_ne (by omega), ro_ne (by omega), ro_ne (by omega), arI, ro_ne (by omega)]
  have A2 : ok c 8 → arM I c 100 2 = bgF (pP I (40 + nn c) 0) (I 100 0) (I 100 2) (mN I (nn c)) := by
    intro a1
    rw [arM, m3_o (by decide), arI, ro_self, (rc (nn c) a1.2).2.2.1]
    rfl
  have cm0 : ∀ a b, a < b → b < 6 → cmP (arM I c) (Int32.ofNat a) (Int32.ofNat b) → ¬ I 101 3 a = 0 ∧ ¬ I 101 3 b = 0 ∧ bsd I a b := by
    intro a b hab hb q
    obtain ⟨q1, q2, q3, _⟩ := q
    have na : nn (Int32.ofNat a) = a := nn_nat (by omega)
    have nb : nn (Int32.ofNat b) = b := nn_nat (by omega)
    rw [na, nb] at q3
    rw [na, A0 6 a (by omega), (hR.1.2.2.1 a (by omega)).1] at q1
    rw [nb, A0 6 b (by omega), (hR.1.2.2.1 b hb).1] at q2
    have rb : RB (arM I c) I := RB_fr hR.1.2.1 (fun p _ => A0 0 (1 + p) (by omega)) (fun _ _ _ => rfl)
    exact ⟨q1, q2, (flo_eq rb (by omega) hb).mp q3⟩
  refine e_arm (c_arm hp (fun a1 => ?_) (fun a1 a2 => ?_) (fun a1 a2 a b hab hb hC hlex => ?_) (fun a1 a2 hno => ?_))
  · exact ⟨1, I, J, rfl, rfl, rfl, fun Q' q => d_arm (C := fun _ _ => False) hm h23 hgl (fun a => absurd a a1) (fun _ _ _ _ w => absurd w id) (fun _ => q _ _ (Rel_th hR) th_200 thI_0 (fun z => absurd z (by decide))) (fun a _ => absurd a a1) (fun a => absurd a a1) (fun a => absurd a a1)⟩
  · rw [ae a1] at a2
    exact ⟨2, I, J, rfl, rfl, rfl, fun Q' q => d_arm (C := fun _ _ => False) hm h23 hgl (fun _ a => absurd a a2) (fun _ _ _ _ w => absurd w id) (fun a => absurd a1 a) (fun _ _ => q _ _ (Rel_th hR) th_200 thI_0 (fun z => absurd z (by decide))) (fun _ a => absurd a a2) (fun _ a => absurd a a2)⟩
  · rw [ae a1] at a2
    obtain ⟨K, hK⟩ : ∃ K, K = arM I c := ⟨_, rfl⟩
    rw [← hK]
    have kI : ∀ b i, ¬ (b = 100 ∧ (i = 2 ∨ i = 7 ∨ i = 8 ∨ i = 9)) → K b i = I b i := fun b i h => by rw [hK]; exact A0 b i h
    have mc : ∀ i, 10 ≤ i → K 100 i = I 100 i := fun i h => kI 100 i (by omega)
    have vK : VC K := VC_fr hR.2.2.2.2.1 (fun i h h' => kI 100 i (by omega))
    have mK : marC K (nn c) ↔ marC I (nn c) := by
      unfold marC mrdy mz mHas mN mP
      rw [kI 100 27 (by omega), kI 100 29 (by omega), kI 100 30 (by omega), kI 101 3 (by omega), kI 100 25 (by omega)]
    have bK : ∀ a b, bsd K a b ↔ bsd I a b := fun a b => by
      unfold bsd
      rw [kI 100 18 (by omega), kI 100 19 (by omega), kI 100 21 (by omega), kI 100 22 (by omega)]
    have g23 : ∀ p, p < 6 → pl (K 100 23 p) := by rw [kI 100 23 (by omega)]; exact h23
    refine ⟨z102, 0, K, _, rfl, rfl, funext fun i => kI 200 i (by omega), fun Q' q => d_arm (C := fun a b => cmP (arM I c) (Int32.ofNat a) (Int32.ofNat b)) (fun c hc => mpOk_of vK hc) g23 (fun c hc m hm => ((vK c hc).2.2 m hm).2.2.1) (fun _ _ a b hab hb x1 x2 x3 u v hu hv => ?_) (fun a b hab hb w => ?_) (fun x => absurd a1 x) (fun _ x => absurd (mK.mpr a2) x) (fun _ _ a' b' hab' hb' hC' hlex' w => ?_) (fun _ _ x => absurd hC (x a b hab hb))⟩
    · rw [kI 101 3 (by omega)] at x1 x2
      exact arm_eq hR a1 a2 mc hab hb x1 x2 ((bK a b).mp x3) hu hv
    · rw [kI 101 3 (by omega), bK]
      exact cm0 a b hab hb w
    · have eab : a' = a ∧ b' = b := by
        have l1 := hlex a' b' hab' hb'
        have l2 := hlex' a b hab hb
        have n1 : ¬ lex a' b' a b := fun z => l1 z hC'
        have n2 : ¬ lex a b a' b' := fun z => l2 z hC
        unfold lex at n1 n2
        omega
      obtain ⟨rfl, rfl⟩ := eab
      obtain ⟨N, hN⟩ : ∃ N, N = ro (baI (thI K 0) (nn c)) 100 38 w := ⟨_, rfl⟩
      rw [← hN]
      obtain ⟨b1, b2⟩ := ba_at a1 hR mc
      have nK : ∀ b i, ¬ ((b = 100 ∧ (i = 35 ∨ i = 38)) ∨ b = 8) → N b i = K b i := fun b i h => by rw [hN, ro_ne (by omega), baI, ro_ne (by omega), thI_b (by omega)]
      have n8 : ∀ f, N 8 0 f = thI K 0 8 0 f := fun f => by rw [hN, ro_b (by decide), baI_b (by decide)]
      have nB : ∀ d m, mB N d m = mB (baI (thI K 0) (nn c)) d m := fun d m => by
        unfold mB
        rw [hN, ro_ne (by decide)]
      refine q _ _ ?_ (by funext i; rw [nK 200 i (by omega), kI 200 i (by omega)]) (by rw [n8, thI_0]) (fun _ => by simp [rf_u3])
      refine arm_rel (k := nn c) (x := I 100 27 (nn c)) hR a1.2 a2 (fun b i h => by rw [nK b i (by omega), kI b i (by omega)]) (by rw [n8, thI_8 (by decide), kI 8 0 (by omega)]) (by rw [n8, thI_8 (by decide), kI 8 0 (by omega)]) (by rw [nK 100 2 (by omega), hK]; exact A2 a1) (by rw [nK 100 27 (by omega), kI 100 27 (by omega), uf_id]) (fun f => ?_) (fun m hm => by rw [nB]; exact b1 m hm) (fun d hd z m hm => by rw [nB]; exact b2 d hd z m hm)
      rw [nK 1 _ (by omega), kI 1 _ (by omega)]
      by_cases z : f = 3
      · rw [if_pos z, z]
        exact (rc (nn c) a1.2).1
      · rw [if_neg z]
  · rw [ae a1] at a2
    obtain ⟨K, hK⟩ : ∃ K, K = rf_u3 (arM I c) 1 (40 + nn c) 3 1 := ⟨_, rfl⟩
    rw [← hK]
    have kA : ∀ b i, ¬ (b = 1 ∧ i = 40 + nn c) → K b i = arM I c b i := fun b i h => by
      rw [hK]
      funext f
      rw [rf_u3, if_neg (by omega)]
    have kI : ∀ b i, ¬ ((b = 1 ∧ i = 40 + nn c) ∨ (b = 100 ∧ (i = 2 ∨ i = 7 ∨ i = 8 ∨ i = 9))) → K b i = I b i := fun b i h => by rw [kA b i (by omega)]; exact A0 b i (by omega)
    have mc : ∀ i, 10 ≤ i → K 100 i = I 100 i := fun i h => kI 100 i (by omega)
    have vK : VC K := VC_fr hR.2.2.2.2.1 (fun i h h' => kI 100 i (by omega))
    have mK : marC K (nn c) ↔ marC I (nn c) := by
      unfold marC mrdy mz mHas mN mP
      rw [kI 100 27 (by omega), kI 100 29 (by omega), kI 100 30 (by omega), kI 101 3 (by omega), kI 100 25 (by omega)]
    have bK : ∀ a b, bsd K a b ↔ bsd I a b := fun a b => by
      unfold bsd
      rw [kI 100 18 (by omega), kI 100 19 (by omega), kI 100 21 (by omega), kI 100 22 (by omega)]
    have g23 : ∀ p, p < 6 → pl (K 100 23 p) := by rw [kI 100 23 (by omega)]; exact h23
    refine ⟨z102, 0, K, _, rfl, rfl, funext fun i => kI 200 i (by omega), fun Q' q => d_arm (C := fun a b => cmP (arM I c) (Int32.ofNat a) (Int32.ofNat b)) (fun c hc => mpOk_of vK hc) g23 (fun c hc m hm => ((vK c hc).2.2 m hm).2.2.1) (fun _ _ a b hab hb x1 x2 x3 u v hu hv => ?_) (fun a b hab hb w => ?_) (fun x => absurd a1 x) (fun _ x => absurd (mK.mpr a2) x) (fun _ _ a' b' hab' hb' hC' _ _ => absurd hC' (hno a' b' hab' hb')) (fun _ _ _ w => ?_)⟩
    · rw [kI 101 3 (by omega)] at x1 x2
      exact arm_eq hR a1 a2 mc hab hb x1 x2 ((bK a b).mp x3) hu hv
    · rw [kI 101 3 (by omega), bK]
      exact cm0 a b hab hb w
    · obtain ⟨N, hN⟩ : ∃ N, N = rf_u3 (ro (baI (thI K 0) (nn c)) 100 38 w) 100 27 (nn c) 1 := ⟨_, rfl⟩
      rw [← hN]
      obtain ⟨b1, b2⟩ := ba_at a1 hR mc
      have nR : ∀ b i, ¬ (b = 100 ∧ i = 27) → N b i = ro (baI (thI K 0) (nn c)) 100 38 w b i := fun b i h => by
        rw [hN]
        funext f
        rw [rf_u3, if_neg (by omega)]
      have nK : ∀ b i, ¬ ((b = 100 ∧ (i = 27 ∨ i = 35 ∨ i = 38)) ∨ b = 8) → N b i = K b i := fun b i h => by rw [nR b i (by omega), ro_ne (by omega), baI, ro_ne (by omega), thI_b (by omega)]
      have n8 : ∀ f, N 8 0 f = thI K 0 8 0 f := fun f => by rw [nR 8 0 (by omega), ro_b (by decide), baI_b (by decide)]
      have n27 : N 100 27 = uf (I 100 27) (nn c) 1 := by
        rw [hN, u3_ro, ro_self, ro_ne (by decide), baI_o (by decide), thI_b (by decide), kI 100 27 (by omega)]
      have nB : ∀ d m, mB N d m = mB (baI (thI K 0) (nn c)) d m := fun d m => by
        unfold mB
        rw [nR 100 35 (by omega), ro_ne (by decide)]
      refine q _ _ ?_ (by funext i; rw [nK 200 i (by omega), kI 200 i (by omega)]) (by rw [n8, thI_0]) (fun _ => by simp [rf_u3])
      refine arm_rel (k := nn c) (x := 1) hR a1.2 a2 (fun b i h => by rw [nK b i (by omega), kI b i (by omega)]) (by rw [n8, thI_8 (by decide), kI 8 0 (by omega)]) (by rw [n8, thI_8 (by decide), kI 8 0 (by omega)]) (by rw [nK 100 2 (by omega), kA 100 2 (by omega)]; exact A2 a1) n27 (fun f => ?_) (fun m hm => by rw [nB]; exact b1 m hm) (fun d hd z m hm => by rw [nB]; exact b2 d hd z m hm)
      rw [nK 1 _ (by omega), hK, rf_u3]
      by_cases z : f = 3
      · rw [if_pos ⟨rfl, rfl, z⟩, if_pos z]
      · rw [if_neg (fun y => z y.2.2), if_neg z, A0 1 _ (by omega)]
end QG
