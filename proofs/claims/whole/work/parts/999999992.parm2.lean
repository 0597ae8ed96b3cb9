/-! arming: class and model decide alike -/
section QF
variable {I M A B N K : Nat → Nat → Nat → Int32} {c : Int32}
theorem act_k (hc : ok c 8) {d : Nat} (hd : d < 8) (ha : act (I 100 27) c d) : d = nn c ∨ bsy (I 100 27 d) := by
  rcases ha with q | q
  · left
    rw [← q, nn_nat (by omega)]
  · exact Or.inr q
theorem ar_ac (hR : Rel I I) (hc : ok c 8) (hm : marC I (nn c)) : acOk (mP I) (mN I) (I 100 27) c := by
  have vc := hR.2.2.2.2.1
  have va := hR.2.2.2.2.2.1
  have kx : ∀ e, e < 8 → bsy (I 100 27 e) → ∀ m, m < mN I (nn c) → ∀ j, j < mN I e → ¬ nn (mP I (nn c) 0 m) = nn (mP I e 0 j) := by
    intro e he be m hmd j hj w
    refine (hm.2.2 m hmd).2.2 e he ⟨be, j, hj, ?_⟩
    exact nnq ((vc e he).2.2 j hj).1.1 ((vc (nn c) hc.2).2.2 m hmd).1.1 w.symm
  refine ⟨fun d hd _ => (vc d hd).2.2, fun d hd ad e he ae m hmd j hj w => ?_⟩
  rcases act_k hc hd ad with q | q
  · rcases act_k hc he ae with y | y
    · rw [q, y]
    · subst q
      exact absurd w (kx e he y m hmd j hj)
  · rcases act_k hc he ae with y | y
    · subst y
      exact absurd w.symm (kx d hd q j hj m hmd)
    · exact ((va d hd q m hmd).2.2.2 e he y j hj w.symm).symm
/-- where the moves began, behind the model's arming -/
theorem ba_at (hc : ok c 8) (hR : Rel I I) (mc : ∀ i, 10 ≤ i → K 100 i = I 100 i) : (∀ m, m < mN I (nn c) → mB (baI (thI K 0) (nn c)) (nn c) m = I 100 23 (nn (mP I (nn c) 0 m))) ∧ ∀ d, d < 8 → ¬ d = nn c → ∀ m, m < 4 → mB (baI (thI K 0) (nn c)) d m = mB I d m := by
  have t100 : thI K 0 100 = K 100 := thI_b (by decide)
  have n5 : mN I (nn c) < 5 := (hR.2.2.2.2.1 (nn c) hc.2).2.1.2
  have eN : mN (thI K 0) (nn c) = mN I (nn c) := by
    unfold mN
    rw [t100, mc 29 (by omega)]
  have r35 : baI (thI K 0) (nn c) 100 35 = baR (mP (thI K 0) (nn c) 0) (I 100 23) (I 100 35) (nn c) (mN I (nn c)) := by
    rw [baI, ro_self, eN, t100, mc 23 (by omega), mc 35 (by omega)]
  refine ⟨fun m hm => ?_, fun d hd ne m hm => ?_⟩
  · show baI (thI K 0) (nn c) 100 35 (4 * nn c + m) = _
    have x : 4 * nn c + m - 4 * nn c = m := by omega
    rw [r35, baR, if_pos (by omega), x]
    show I 100 23 (nn (thI K 0 100 30 (4 * nn c + m))) = _
    rw [t100, mc 30 (by omega)]
    rfl
  · show baI (thI K 0) (nn c) 100 35 (4 * d + m) = _
    rw [r35, baR, if_neg (by omega)]
    rfl
theorem arm_eq (hR : Rel I I) (hc : ok c 8) (hmar : marC I (nn c)) (mc : ∀ i, 10 ≤ i → K 100 i = I 100 i) {a b : Nat} (hab : a < b) (hb : b < 6) (ha3 : ¬ I 101 3 a = 0) (hb3 : ¬ I 101 3 b = 0) (hbs : bsd I a b) {u v : Int32} (hu : farV (baI (thI K 0) (nn c)) (Int32.ofNat a) c u) (hv : farV (baI (thI K 0) (nn c)) (Int32.ofNat b) c v) :
    cmX (baI (thI K 0) (nn c)) (Int32.ofNat a) (Int32.ofNat b) c u v ↔ cmP (arM I c) (Int32.ofNat a) (Int32.ofNat b) := by
  obtain ⟨k, hk⟩ : ∃ k, k = nn c := ⟨_, rfl⟩
  have k8 : k < 8 := by rw [hk]; exact hc.2
  have rc := hR.1.2.2.2.2.1
  have vc := hR.2.2.2.2.1
  have va := hR.2.2.2.2.2.1
  have vp := hR.2.2.1
  have vb := hR.2.2.2.1
  obtain ⟨b1, b2⟩ := ba_at hc hR mc
  have ac := ar_ac hR hc hmar
  rw [← hk] at b1 b2 hmar hu hv ⊢
  have t100 : thI K 0 100 = K 100 := thI_b (by decide)
  obtain ⟨B, hBd⟩ : ∃ B, B = baI (thI K 0) k := ⟨_, rfl⟩
  rw [← hBd] at b1 b2 hu hv ⊢
  have eB : ∀ i, 10 ≤ i → ¬ i = 35 → B 100 i = I 100 i := fun i h h' => by rw [hBd, baI_o h', t100, mc i h]
  have eBP : ∀ d f m, f < 5 → mP B d f m = mP I d f m := fun d f m hf => by
    show B 100 (30 + f) _ = I 100 (30 + f) _
    rw [eB (30 + f) (by omega) (by omega)]
  have eBN : mN B = mN I := by
    funext d
    unfold mN
    rw [eB 29 (by omega) (by omega)]
  have e23 := eB 23 (by omega) (by omega)
  have e27 := eB 27 (by omega) (by omega)
  have e20 := eB 20 (by omega) (by omega)
  have n5 : ∀ d, d < 8 → mN I d < 5 := fun d hd => (vc d hd).2.1.2
  have pn : ∀ d, d < 8 → pnOk (mP I d) (mN I d) := fun d hd => (vc d hd).2.2
  have nbk : ¬ bsy (I 100 27 k) := hmar.1
  -- where moves began
  have kne : ∀ d, d < 8 → bsy (I 100 27 d) → ¬ d = k := fun d hd q w => nbk (w ▸ q)
  have free : ∀ d, d < 8 → bsy (I 100 27 d) → ∀ m, m < mN I d → ∀ j, j < mN I k → ¬ nn (mP I k 0 j) = nn (mP I d 0 m) := by
    intro d hd q m hm j hj w
    have := ac.2 k k8 (Or.inl (by rw [hk]; exact nn_of hc.1)) d hd (Or.inr q) j hj m hm w
    exact kne d hd q this.symm
  have hBt : btW (mP I) (mB B) (mN I) (I 100 23) (I 100 27) c := by
    intro d hd ad m hm
    have n4 := n5 d hd
    rcases act_k hc hd ad with q | q
    · rw [← hk] at q
      subst q
      rw [b1 m hm]
      unfold IV
      omega
    · rw [b2 d hd (kne d hd q) m (by omega)]
      exact (va d hd q m hm).2.2.1.1
  -- the class's rows
  obtain ⟨I', hI'⟩ : ∃ I', I' = arI I k := ⟨_, rfl⟩
  have eI' : ∀ b i, ¬ (b = 100 ∧ i = 2) → I' b i = I b i := fun b i h => by rw [hI', arI, ro_ne (by omega)]
  have e2' : I' 100 2 = bgF (pP I (40 + k) 0) (I 100 0) (I 100 2) (mN I k) := by
    rw [hI', arI, ro_self, (rc k k8).2.2.1]
    rfl
  have e5' : I' 5 = I 5 := funext fun i => eI' 5 i (by omega)
  have kB' : ∀ d, d < 8 → act (I 100 27) c d → ∀ m, m < mN I d → kB I' d m = mB B d m := by
    intro d hd ad m hm
    have n4 := n5 d hd
    have p0 : I 5 (4 * (40 + d) + m) 0 = mP I d 0 m := (rc d hd).2.2.2 m hm 0 (by decide)
    show I' 100 2 (nn (I' 5 (4 * (40 + d) + m) 0)) = _
    rw [e5', p0, e2']
    rcases act_k hc hd ad with q | q
    · rw [← hk] at q
      subst q
      rw [bgF_at (mN I d) ⟨m, hm, by rw [← p0]; rfl⟩, b1 m hm, hR.1.2.2.2.1.1]
    · rw [bgF_ne (mN I k) (fun j hj w => free d hd q m hm j hj (by
        have pj : pP I (40 + k) 0 j = mP I k 0 j := (rc k k8).2.2.2 j hj 0 (by decide)
        rw [pj] at w
        exact w)), b2 d hd (kne d hd q) m (by omega)]
      exact hR.1.2.2.2.2.2.1 d hd q m hm
  obtain ⟨T, hT⟩ : ∃ T, T = fsI I' c := ⟨_, rfl⟩
  have hT' : T = fsR (mP I) (mB B) (mN I) (I 100 27) c (fs0 I') 8 := by
    rw [hT, fsI]
    refine fsR_cg (fun d hd => ?_) (fun d hd => ?_) (fun d hd f m hf hm => ?_) (fun d hd ad m hm => kB' d hd ad m hm) (fun d hd m hm => ⟨(pn d hd m hm).1, (pn d hd m hm).2.2.2.1⟩) 8 (Nat.le_refl _)
    · show I' 1 (40 + d) 3 = _
      rw [eI' 1 _ (by omega)]
      exact (rc d hd).1
    · show nn (I' 1 (40 + d) 1) = _
      rw [eI' 1 _ (by omega), (rc d hd).2.2.1]
      rfl
    · show I' 5 (4 * (40 + d) + m) f = _
      rw [e5']
      exact (rc d hd).2.2.2 m hm f hf
  have fs3 : ∀ p, p < 6 → (fs0 I').2.2 p = I 100 23 p := fun p hp => by
    show slR (I' 100 0) (I' 100 9) 6 p = _
    rw [slR, if_pos hp, eI' 100 0 (by omega), hR.1.2.2.2.1.1]
  have F2 : T.2.2 = (cb2 (mP I) (mB B) (mN I) (I 100 23) (I 100 27) c (-1) (-1) (1, (fs0 I').2.2) 8).2 := by
    rw [hT']
    exact fs_cb (z := 1) ac fs3 8 (Nat.le_refl _)
  have nsp : ∀ d, d < 8 → ∀ m, m < mN I d → ¬ spc (-1) (-1) (mP I d 0 m) := by
    intro d hd m hm q
    have h0 := (pn d hd m hm).1.1
    have : mP I d 0 m = -1 := q.elim id id
    rw [this] at h0
    exact absurd h0 (by decide)
  have hF : fuW (mP I) (mB B) (mN I) (I 100 23) (I 100 27) c T.2.2 := by
    refine ⟨fun d hd ad m hm => ?_, fun p hp no => ?_⟩
    · rw [F2]
      exact cb2_val ac hd ad hm (nsp d hd m hm)
    · rw [F2, cb2_ne (k := 0) 8 (by omega) (fun d _ h2 ad m hm _ => no d h2 ad m hm)]
      exact fs3 p hp
  have hM : mvW (mP I) (mN I) (I 100 27) c T.1 T.2.1 := by
    obtain ⟨g1, g2⟩ := fs_mv (b := mB B) (t := fs0 I') ac 8 (Nat.le_refl _)
    rw [← hT'] at g1 g2
    refine ⟨g1, fun p hp no => ?_⟩
    rw [g2 p no]
    show slR (fun _ => -1) (I' 100 7) 6 p = -1
    rw [slR, if_pos hp]
  have hpl : ∀ p, p < 6 → pl (I 100 23 p) ∧ pl (T.2.2 p) := by
    intro p hp
    refine ⟨(vp p hp).1, ?_⟩
    by_cases ex : ∃ d, d < 8 ∧ act (I 100 27) c d ∧ ∃ m, m < mN I d ∧ nn (mP I d 0 m) = p
    · obtain ⟨d, hd, ad, m, hm, e⟩ := ex
      rcases fx_or (hF.1 d hd ad) hm with ⟨_, f⟩ | ⟨_, f⟩
      · rw [e] at f
        rw [f]; exact (pn d hd m hm).2.2.1
      · rw [e] at f
        rw [f]; exact (vp p hp).1
    · rw [hF.2 p hp fun d hd ad m hm w => ex ⟨d, hd, ad, m, hm, w⟩]
      exact (vp p hp).1
  have a6 : a < 6 := by omega
  have hα : ok (Int32.ofNat a) 6 := nt_ix (n := 6) a6 (by decide)
  have hβ : ok (Int32.ofNat b) 6 := nt_ix (n := 6) hb (by decide)
  have na : nn (Int32.ofNat a) = a := nn_nat (by omega)
  have nb : nn (Int32.ofNat b) = b := nn_nat (by omega)
  have ne : ¬ Int32.ofNat a = Int32.ofNat b := fun w => by
    have := congrArg nn w
    rw [na, nb] at this
    omega
  have far : ∀ q w, ok q 6 → farV B q c w → farU (mP I) (mN I) (I 100 23) (I 100 27) c q w := by
    intro q w hq h
    rcases h with ⟨d, m, hd, hm, e, ad, f⟩ | ⟨no, f⟩
    · rw [eBN] at hm
      rw [eBP d 0 m (by decide)] at e
      rw [eBP d 1 m (by decide)] at f
      rw [e27] at ad
      refine ⟨fun d' hd' ad' m' hm' e' => ?_, fun no => absurd e (no d hd ad m hm)⟩
      have dd := ac.2 d' hd' ad' d hd ad m' hm' m hm (by rw [e, e'])
      subst dd
      have mm := (pn d' hd m hm).2.2.2.2 m' hm' (by rw [e, e'])
      subst mm
      exact f
    · rw [e23] at f
      refine ⟨fun d hd ad m hm e => ?_, fun _ => f⟩
      refine absurd ?_ (no d hd)
      unfold farB mHas
      rw [eBN, e27]
      exact ⟨⟨m, hm, by rw [eBP d 0 m (by decide)]; exact e⟩, ad⟩
  have hu' := far _ _ hα hu
  have hv' := far _ _ hβ hv
  have pu : pl u := farV_pl hα (by rw [e23]; exact fun p hp => (vp p hp).1) (fun d hd m hm => by
    rw [eBN] at hm
    rw [eBP d 1 m (by decide)]
    exact (pn d hd m hm).2.2.1) hu
  have pv : pl v := farV_pl hβ (by rw [e23]; exact fun p hp => (vp p hp).1) (fun d hd m hm => by
    rw [eBN] at hm
    rw [eBP d 1 m (by decide)]
    exact (pn d hd m hm).2.2.1) hv
  have rows := meet_rows (b := mB B) (F := T.2.2) (mc := T.1) (mm := T.2.1) (ha := (I 100 20 a).toInt) (hb := (I 100 20 b).toInt) ac n5 hBt hM hF hpl hα hβ ne hu' hv'
  have cbe : ∀ x y, cbV B (Int32.ofNat a) x (Int32.ofNat b) y c = (cbU (mP I) (mB B) (mN I) (I 100 23) (I 100 27) c (Int32.ofNat a) (Int32.ofNat b) x y).1 := by
    intro x y
    unfold cbV cbU
    rw [eBN, e23, e27]
    exact (cb2_cg (fun d f m hf => eBP d f m hf) (fun d hd m hm => by
      rw [eBP d 0 m (by decide), eBP d 3 m (by decide)]
      exact ⟨(pn d hd m hm).1, (pn d hd m hm).2.2.2.1⟩) rfl (fun p hp => rfl) 8 (Nat.le_refl _)).1
  have hl : ∀ p, p < 6 → 1 ≤ B 100 20 p ∧ B 100 20 p ≤ 40 := fun p hp => by rw [e20]; exact (vb p hp).2.2.1
  rw [na, nb] at rows
  -- the model's search
  have lhs : cmX B (Int32.ofNat a) (Int32.ofNat b) c u v ↔ ∃ x y : Int32, IV (I 100 23 a) u x ∧ IV (I 100 23 b) v y ∧ oz (I 100 20 a).toInt (I 100 20 b).toInt x.toInt y.toInt ∧ ¬ (cbU (mP I) (mB B) (mN I) (I 100 23) (I 100 27) c (Int32.ofNat a) (Int32.ofNat b) x y).1 = 0 := by
    have pa := (vp a a6).1
    have pb := (vp b hb).1
    have ia := pl_i pa
    have ib := pl_i pb
    have iu := pl_i pu
    have iv := pl_i pv
    unfold cmX
    rw [na, nb, e23]
    constructor
    · rintro ⟨x, y, x1, x2, y1, y2, ho, hc'⟩
      have xl : x ≤ 400 := Nat.le_trans x2 (pl_n (hiV_pl pa pu))
      have yl : y ≤ 400 := Nat.le_trans y2 (pl_n (hiV_pl pb pv))
      have hx : pl (Int32.ofNat x) := pl_t (by rw [n_i (by omega)]; omega)
      have hy : pl (Int32.ofNat y) := pl_t (by rw [n_i (by omega)]; omega)
      rw [hov_z hx hy (hl a a6) (hl b hb), e20] at ho
      rw [cbe] at hc'
      exact ⟨Int32.ofNat x, Int32.ofNat y, (rng_iv pa pu xl).mp ⟨x1, x2⟩, (rng_iv pb pv yl).mp ⟨y1, y2⟩, ho, hc'⟩
    · rintro ⟨x, y, ix, iy, ho, hc'⟩
      have hx : pl x := pl_t (by unfold IV at ix; omega)
      have hy : pl y := pl_t (by unfold IV at iy; omega)
      have ex : Int32.ofNat (nn x) = x := nn_of hx.1
      have ey : Int32.ofNat (nn y) = y := nn_of hy.1
      obtain ⟨x1, x2⟩ := (rng_iv pa pu (pl_n hx)).mpr (by rw [ex]; exact ix)
      obtain ⟨y1, y2⟩ := (rng_iv pb pv (pl_n hy)).mpr (by rw [ey]; exact iy)
      refine ⟨nn x, nn y, x1, x2, y1, y2, ?_, ?_⟩
      · rw [ex, ey, hov_z hx hy (hl a a6) (hl b hb), e20]
        exact ho
      · rw [ex, ey, cbe]
        exact hc'
  rw [lhs, rows]
  -- the class's question
  have eA : arM I c = m3 I' T := by rw [arM, ← hk, ← hI', ← hT]
  obtain ⟨A, hA⟩ : ∃ A, A = arM I c := ⟨_, rfl⟩
  rw [← hA]
  have A0 : A 0 = I 0 := by rw [hA, eA, m3_b (by decide)]; funext i; exact eI' 0 i (by omega)
  have A6 : A 6 = I 6 := by rw [hA, eA, m3_b (by decide)]; funext i; exact eI' 6 i (by omega)
  have A5 : A 5 = I 5 := by rw [hA, eA, m3_b (by decide), e5']
  have Am : A 100 0 = I 100 23 := by rw [hA, eA, m3_o (by decide), eI' 100 0 (by omega), hR.1.2.2.2.1.1]
  have A7 : A 100 7 = T.1 := by rw [hA, eA, m3, ro_ne (by decide), ro_ne (by decide), ro_self]
  have A8 : A 100 8 = T.2.1 := by rw [hA, eA, m3, ro_ne (by decide), ro_self]
  have A9 : A 100 9 = T.2.2 := by rw [hA, eA, m3, ro_self]
  have A2 : A 100 2 = I' 100 2 := by rw [hA, eA, m3_o (by decide)]
  have rb : RB A I := RB_fr hR.1.2.1 (fun p _ => by rw [A0]) (fun _ _ _ => rfl)
  have h4 : ∀ p, p < 6 → A 0 (1 + p) 4 = I 100 20 p := fun p hp => (rb p hp).2.2.2.2
  have hl4 : ∀ p, p < 6 → 1 ≤ A 0 (1 + p) 4 ∧ A 0 (1 + p) 4 ≤ 40 := fun p hp => by rw [h4 p hp]; exact (vb p hp).2.2.1
  have kPA : ∀ d, kP A d = kP I d := fun d => by
    unfold kP pP
    rw [A5]
  have kBA : ∀ d, d < 8 → act (I 100 27) c d → ∀ m, m < mN I d → kB A d m = mB B d m := fun d hd ad m hm => by
    have : kB A d m = kB I' d m := by
      show A 100 2 (nn (A 5 (4 * (40 + d) + m) 0)) = I' 100 2 (nn (I' 5 (4 * (40 + d) + m) 0))
      rw [A2, A5, e5']
    rw [this]
    exact kB' d hd ad m hm
  have lge : ∀ w f, ok f 6 → lgV A w f = lgW (mP I) (mB B) (I 100 23) T.1 T.2.1 w f := by
    intro w f hf
    unfold lgV lgW
    rw [A7, A8, Am]
    by_cases ex : ∃ d, d < 8 ∧ act (I 100 27) c d ∧ ∃ m, m < mN I d ∧ nn (mP I d 0 m) = nn f
    · obtain ⟨d, hd, ad, m, hm, e⟩ := ex
      obtain ⟨m1, m2⟩ := hM.1 d hd ad m hm
      rw [e] at m1 m2
      have n4 := n5 d hd
      rw [m1, m2, nn_nat (show d < 2147483648 by omega), nn_nat (show m < 2147483648 by omega), kPA]
      rw [lgF_cg (n := mN I d) (P := kP I d) (P' := mP I d) (b := kB A d) (b' := mB B d) (fun f m hf hm => (rc d hd).2.2.2 m hm f hf) (fun m hm => kBA d hd ad m hm) (fun m hm => ⟨(pn d hd m hm).1, (pn d hd m hm).2.2.2.1⟩) 4 m hm]
    · have := hM.2 (nn f) hf.2 fun d hd ad m hm w => ex ⟨d, hd, ad, m, hm, w⟩
      rw [cif_t this, cif_t this]
  have tq : ∀ q w : Int32, q = w ↔ q.toInt = w.toInt := fun q w => Int32.toInt_inj.symm
  have pma := hpl a a6
  have pmb := hpl b hb
  have spo : ∀ q, spc (Int32.ofNat a) (Int32.ofNat b) q ↔ q = Int32.ofNat b ∨ q = Int32.ofNat a := fun q => ⟨fun w => w.elim Or.inr Or.inl, fun w => w.elim Or.inr Or.inl⟩
  have xb : ∀ x y d, d < 8 → act (I 100 27) c d → xxR (mP I d) (mB B d) (I 100 23) (cbU (mP I) (mB B) (mN I) (I 100 23) (I 100 27) c (Int32.ofNat a) (Int32.ofNat b) x y).2 (mN I d) (Int32.ofNat a) (Int32.ofNat b) := fun x y d hd ad m hm hs => cb2_val ac hd ad hm hs
  have xat : ∀ x y, (cbU (mP I) (mB B) (mN I) (I 100 23) (I 100 27) c (Int32.ofNat a) (Int32.ofNat b) x y).2 a = x ∧ (cbU (mP I) (mB B) (mN I) (I 100 23) (I 100 27) c (Int32.ofNat a) (Int32.ofNat b) x y).2 b = y := by
    intro x y
    unfold cbU
    rw [cb2_ne (p := a) (k := 0) 8 (by omega) (fun d _ h2 ad m hm hs w => hs (Or.inl (nnq (pn d h2 m hm).1.1 hα.1 (by rw [na]; exact w)))), cb2_ne (p := b) (k := 0) 8 (by omega) (fun d _ h2 ad m hm hs w => hs (Or.inr (nnq (pn d h2 m hm).1.1 hβ.1 (by rw [nb]; exact w))))]
    show uf (uf (I 100 23) (nn (Int32.ofNat a)) x) (nn (Int32.ofNat b)) y a = x ∧ uf (uf (I 100 23) (nn (Int32.ofNat a)) x) (nn (Int32.ofNat b)) y b = y
    rw [na, nb]
    unfold uf
    rw [if_neg (by omega), if_pos rfl, if_pos rfl]
    exact ⟨rfl, rfl⟩
  have plg1 : ¬ T.2.2 b = I 100 23 b → pl (lgW (mP I) (mB B) (I 100 23) T.1 T.2.1 (Int32.ofNat a) (Int32.ofNat b)) := by
    intro q
    have := lg_iv (φ := Int32.ofNat b) (τ := Int32.ofNat a) ac n5 hBt hM hF (xb (I 100 23 a) (I 100 23 b)) spo hβ hα (by rw [na, (xat _ _).1]; unfold IV; omega) (by rw [nb]; exact q)
    rw [na] at this
    have x1 := pl_i pma.1
    have x2 := pl_i pma.2
    refine pl_t ?_
    unfold IV at this
    omega
  have plg2 : ¬ T.2.2 a = I 100 23 a → pl (lgW (mP I) (mB B) (I 100 23) T.1 T.2.1 (Int32.ofNat b) (Int32.ofNat a)) := by
    intro q
    have := lg_iv (φ := Int32.ofNat a) (τ := Int32.ofNat b) ac n5 hBt hM hF (xb (I 100 23 a) (I 100 23 b)) (fun q => Iff.rfl) hα hβ (by rw [nb, (xat _ _).2]; unfold IV; omega) (by rw [na]; exact q)
    rw [nb] at this
    have x1 := pl_i pmb.1
    have x2 := pl_i pmb.2
    refine pl_t ?_
    unfold IV at this
    omega
  have izz : ∀ p x : Int, iz p p x ↔ x = p := fun p x => by unfold iz; omega
  have cs1 : cshP A (Int32.ofNat a) (Int32.ofNat b) ↔ ((∃ x, iz (I 100 23 a).toInt (T.2.2 a).toInt x ∧ oz (I 100 20 a).toInt (I 100 20 b).toInt x (I 100 23 b).toInt) ∨ (¬ (T.2.2 b).toInt = (I 100 23 b).toInt ∧ ∃ x y, iz (lgW (mP I) (mB B) (I 100 23) T.1 T.2.1 (Int32.ofNat a) (Int32.ofNat b)).toInt (T.2.2 a).toInt x ∧ iz (I 100 23 b).toInt (T.2.2 b).toInt y ∧ oz (I 100 20 a).toInt (I 100 20 b).toInt x y)) := by
    unfold cshP
    rw [na, nb, Am, A9, lge _ _ hβ, hei_z pma.1 pma.2 pmb.1 pmb.1 (hl4 a a6) (hl4 b hb), h4 a a6, h4 b hb, tq (T.2.2 b)]
    refine or_congr ⟨?_, ?_⟩ (and_congr_right_iff.mpr fun q => ?_)
    · rintro ⟨x, y, ix, iy, o⟩
      rw [izz] at iy
      subst iy
      exact ⟨x, ix, o⟩
    · rintro ⟨x, ix, o⟩
      exact ⟨x, _, ix, (izz _ _).mpr rfl, o⟩
    · rw [hei_z (plg1 fun w => q ((tq _ _).mp w)) pma.2 pmb.1 pmb.2 (hl4 a a6) (hl4 b hb), h4 a a6, h4 b hb]
  have cs2 : cshP A (Int32.ofNat b) (Int32.ofNat a) ↔ ((∃ y, iz (I 100 23 b).toInt (T.2.2 b).toInt y ∧ oz (I 100 20 a).toInt (I 100 20 b).toInt (I 100 23 a).toInt y) ∨ (¬ (T.2.2 a).toInt = (I 100 23 a).toInt ∧ ∃ x y, iz (lgW (mP I) (mB B) (I 100 23) T.1 T.2.1 (Int32.ofNat b) (Int32.ofNat a)).toInt (T.2.2 b).toInt y ∧ iz (I 100 23 a).toInt (T.2.2 a).toInt x ∧ oz (I 100 20 a).toInt (I 100 20 b).toInt x y)) := by
    have sw : ∀ p q x y : Int, oz p q x y ↔ oz q p y x := fun p q x y => ⟨fun w => ⟨w.2, w.1⟩, fun w => ⟨w.2, w.1⟩⟩
    unfold cshP
    rw [na, nb, Am, A9, lge _ _ hα, hei_z pmb.1 pmb.2 pma.1 pma.1 (hl4 b hb) (hl4 a a6), h4 a a6, h4 b hb, tq (T.2.2 a)]
    refine or_congr ⟨?_, ?_⟩ (and_congr_right_iff.mpr fun q => ?_)
    · rintro ⟨x, y, ix, iy, o⟩
      rw [izz] at iy
      subst iy
      exact ⟨x, ix, (sw _ _ _ _).mp o⟩
    · rintro ⟨y, iy, o⟩
      exact ⟨y, _, iy, (izz _ _).mpr rfl, (sw _ _ _ _).mp o⟩
    · rw [hei_z (plg2 fun w => q ((tq _ _).mp w)) pmb.2 pma.1 pma.2 (hl4 b hb) (hl4 a a6), h4 a a6, h4 b hb]
      constructor
      · rintro ⟨y, x, iy, ix, o⟩
        exact ⟨x, y, iy, ix, (sw _ _ _ _).mp o⟩
      · rintro ⟨x, y, iy, ix, o⟩
        exact ⟨y, x, iy, ix, (sw _ _ _ _).mp o⟩
  rw [← cs1, ← cs2]
  unfold cmP
  rw [na, nb, A6, (hR.1.2.2.1 a a6).1, (hR.1.2.2.1 b hb).1, flo_eq rb a6 hb]
  exact ⟨fun q => ⟨ha3, hb3, hbs, q.1, q.2⟩, fun q => ⟨q.2.2.2.1, q.2.2.2.2⟩⟩
end QF
