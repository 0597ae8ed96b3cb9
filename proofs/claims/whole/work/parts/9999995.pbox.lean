/-! the calls side by side: box, unhang -/
section PF
variable {l : Launch} {L : Nat} {I M I' M' : Nat → Nat → Nat → Int32} {J : Nat → Nat → Nat → Int64}
theorem of_nn {p : Int32} {i : Nat} (hp : ok p 6) (hi : i < 6) : Int32.ofNat i = p ↔ i = nn p := by
  constructor
  · intro q
    rw [← q, nn_nat (by omega)]
  · intro q
    rw [q, nn_of hp.1]
theorem fit_eq {p a : Int32} (hp : ok p 6) (t : I' 0 0 0 = M' 100 21 (nn p) ∧ I' 0 0 1 = M' 100 22 (nn p) ∧ I' 0 0 2 = M' 100 18 (nn p) ∧ I' 0 0 3 = M' 100 19 (nn p) ∧ I' 0 0 4 = M' 100 20 (nn p)) (ha : a = M' 100 23 (nn p))
    (o : ∀ i, i < 6 → ¬ i = nn p → I' 6 i 1 = M' 101 3 i ∧ I' 100 0 i = M' 100 23 i ∧ I' 0 (1 + i) 0 = M' 100 21 i ∧ I' 0 (1 + i) 1 = M' 100 22 i ∧ I' 0 (1 + i) 2 = M' 100 18 i ∧ I' 0 (1 + i) 3 = M' 100 19 i ∧ I' 0 (1 + i) 4 = M' 100 20 i) : (∀ i, i < 6 → tfit I' p a i) ↔ ¬ ∃ j, j < 6 ∧ mAn M' p j := by
  have key : ∀ i, i < 6 → (tfit I' p a i ↔ ¬ mAn M' p i) := by
    intro i hi
    unfold tfit mAn
    by_cases q : Int32.ofNat i = p
    · exact ⟨fun _ w => w.1 q, fun _ w => absurd q w⟩
    · have q' : ¬ i = nn p := fun w => q ((of_nn hp hi).mpr w)
      obtain ⟨o1, o2, o3, o4, o5, o6, o7⟩ := o i hi q'
      obtain ⟨t0, t1, t2, t3, t4⟩ := t
      have ef : flo I' 0 (1 + i) ↔ bsd M' (nn p) i := by
        unfold flo bsd ovl
        rw [t0, t1, t2, t3, o3, o4, o5, o6]
      have eh : hei I' 0 (1 + i) a a (I' 100 0 i) (I' 100 0 i) ↔ hov M' (nn p) i (M' 100 23 (nn p)) (M' 100 23 i) := by
        unfold hei hov ovl
        rw [mn_s, mn_s, mx_s, mx_s, t4, o7, o2, ha, Int32.sub_add_cancel, Int32.sub_add_cancel]
      rw [ef, eh, o1]
      exact ⟨fun w y => w y.1 y.2.1 y.2.2.1 y.2.2.2, fun w y1 y2 y3 y4 => w ⟨y1, y2, y3, y4⟩⟩
  constructor
  · rintro q ⟨j, hj, w⟩
    exact (key j hj).mp (q j hj) w
  · intro q i hi
    exact (key i hi).mpr fun w => q ⟨i, hi, w⟩
theorem busy_eq (r : RC I M) {c : Nat} (hc : c < 8) : busy I (40 + c) ↔ bsy (M 100 27 c) := by
  unfold busy bsy
  rw [(r c hc).1]
theorem p_box {p w d h : Int32} (hR : Rel I I) : rf_C l 46 [dk, .inl p, .inl w, .inl d, .inl h] (sS L I J) (tpN l L I 48 [mo, .inl p, .inl w, .inl d, .inl h]) := by
  have eb : (∃ c, c < 8 ∧ busy I (40 + c)) ↔ ∃ c, c < 8 ∧ mAc I c := by
    constructor
    · rintro ⟨c, hc, b⟩
      exact ⟨c, hc, (busy_eq hR.1.2.2.2.2.1 hc).mp b⟩
    · rintro ⟨c, hc, b⟩
      exact ⟨c, hc, (busy_eq hR.1.2.2.2.2.1 hc).mpr b⟩
  -- the trial box does not matter
  have RelT : ∀ g, Rel (ro I 0 0 g) (ro I 0 0 g) := fun g => by
    have e : ∀ b i, ¬ (b = 0 ∧ i = 0) → ro I 0 0 g b i = I b i := fun b i q => ro_ne (by omega)
    have e31 : ro I 0 0 g 8 0 31 = I 8 0 31 := by rw [e 8 0 (by omega)]
    have e32 : ro I 0 0 g 8 0 32 = I 8 0 32 := by rw [e 8 0 (by omega)]
    exact ⟨⟨RD_fr hR.1.1 (funext fun i => e 2 i (by omega)) (fun k _ _ => e 100 k (by omega)) (e 101 1 (by omega)) (e 101 2 (by omega)), RB_fr hR.1.2.1 (fun p _ => e 0 (1 + p) (by omega)) (fun k _ _ => e 100 k (by omega)), RP_fr hR.1.2.2.1 (funext fun i => e 6 i (by omega)) (e 100 25 (by omega)) (e 100 26 (by omega)) (e 101 3 (by omega)), RM_fr hR.1.2.2.2.1 (e 100 0 (by omega)) (e 100 1 (by omega)) (e 100 23 (by omega)) (e 100 24 (by omega)), RC_fr hR.1.2.2.2.2.1 (fun c _ => e 1 (40 + c) (by omega)) (fun c _ m _ => e 5 (4 * (40 + c) + m) (by omega)) hR.2.2.2.2.1 (fun k _ _ => e 100 k (by omega)), RG_fr hR.1.2.2.2.2.2.1 (e 100 2 (by omega)) (fun k _ _ => e 100 k (by omega)) (fun c _ hb => by rw [e 100 27 (by omega)] at hb; exact hb), RH_fr hR.1.2.2.2.2.2.2.1 (e 101 0 (by omega)) (e 101 4 (by omega)), RJ_fr hR.1.2.2.2.2.2.2.2 (funext fun i => e 3 i (by omega)) (congrFun (e 7 0 (by omega)) 11) (fun k _ => e 1 k (by omega)) (fun k _ => e 5 k (by omega)) (e 100 6 (by omega)) hR.2.2.2.2.2.2.2 e31 e32 (e 100 36 (by omega)) (e 100 37 (by omega))⟩, VD_fr hR.2.1 (e 100 10 (by omega)) (e 100 11 (by omega)) (e 100 12 (by omega)) (e 100 14 (by omega)) (e 100 16 (by omega)) (e 101 1 (by omega)) (e 101 3 (by omega)), VP_fr hR.2.2.1 (e 100 23 (by omega)) (e 100 24 (by omega)) (e 100 25 (by omega)) (e 101 3 (by omega)) (e 100 10 (by omega)), VB_fr hR.2.2.2.1 (fun k _ _ => e 100 k (by omega)), VC_fr hR.2.2.2.2.1 (fun k _ _ => e 100 k (by omega)), VA_fr hR.2.2.2.2.2.1 (fun k _ _ => e 100 k (by omega)) (e 100 23 (by omega)) (e 100 24 (by omega)) (e 100 25 (by omega)) (e 101 3 (by omega)) (fun c _ hb => by rw [e 100 27 (by omega)] at hb; exact hb), VS_fr hR.2.2.2.2.2.2.1 (fun k _ _ => e 100 k (by omega)) (e 100 24 (by omega)) (fun c _ hb => by rw [e 100 27 (by omega)]; exact hb), VJ_fr hR.2.2.2.2.2.2.2 (funext fun i => e 3 i (by omega)) (fun k _ => e 1 k (by omega)) (e 100 6 (by omega)) e31 (e 100 36 (by omega)) (e 100 37 (by omega))⟩
  have fit : ok p 6 → ∀ K : Nat → Nat → Nat → Int32, (∀ b i, ¬ (b = 0) → K b i = I b i) → ((I 6 (nn p) 1 = 0 ∨ ∀ i, i < 6 → tfit (ro I 0 0 (bxT I (nn p) w d h)) p (I 100 0 (nn p)) i) ↔ (K 101 3 (nn p) = 0 ∨ ¬ ∃ j, j < 6 ∧ mAn (mbI (thI K 0) (nn p) w d h) p j)) := by
    intro a1 K hK
    obtain ⟨x0, x1, x2, x3, x4⟩ := hR.1.2.1 (nn p) a1.2
    have k100 : ∀ i, K 100 i = I 100 i := fun i => hK 100 i (by decide)
    have m0 : ∀ k f, ¬ (k = 18 ∨ k = 19 ∨ k = 20) → mbI (thI K 0) (nn p) w d h 100 k f = I 100 k f := fun k f q => by
      rw [← k100]
      unfold mbI thI
      rw [rf_u3, if_neg (by omega), rf_u3, if_neg (by omega), rf_u3, if_neg (by omega), rf_u3, if_neg (by omega)]
    have m1 : ∀ k f, ¬ f = nn p → mbI (thI K 0) (nn p) w d h 100 k f = I 100 k f := fun k f q => by
      rw [← k100]
      unfold mbI thI
      rw [rf_u3, if_neg (by omega), rf_u3, if_neg (by omega), rf_u3, if_neg (by omega), rf_u3, if_neg (by omega)]
    have m101 : mbI (thI K 0) (nn p) w d h 101 = I 101 := by
      unfold mbI
      rw [u3_b (by decide), u3_b (by decide), u3_b (by decide), thI_b (by decide)]
      funext i
      exact hK 101 i (by decide)
    have c0 : ∀ i, ¬ i = 0 → ro I 0 0 (bxT I (nn p) w d h) 0 i = I 0 i := fun i q => ro_ne (by omega)
    have cb : ∀ b, ¬ b = 0 → ro I 0 0 (bxT I (nn p) w d h) b = I b := fun b q => ro_b q
    have f := fit_eq (I' := ro I 0 0 (bxT I (nn p) w d h)) (M' := mbI (thI K 0) (nn p) w d h) (p := p) (a := I 100 0 (nn p)) a1 ?_ ?_ ?_
    · rw [(hR.1.2.2.1 (nn p) a1.2).1, hK 101 3 (by decide)]
      exact or_congr Iff.rfl f
    · rw [ro_self, m0 21 _ (by omega), m0 22 _ (by omega)]
      refine ⟨?_, ?_, ?_, ?_, ?_⟩
      · show bxT I (nn p) w d h 0 = _
        rw [← x0]
        simp [bxT, uf, t5]
      · show bxT I (nn p) w d h 1 = _
        rw [← x1]
        simp [bxT, uf, t5]
      · simp [bxT, uf, mbI, rf_u3]
      · simp [bxT, uf, mbI, rf_u3]
      · simp [bxT, uf, mbI, rf_u3]
    · rw [m0 23 _ (by omega), hR.1.2.2.2.1.1]
    · intro i hi q
      obtain ⟨y0, y1, y2, y3, y4⟩ := hR.1.2.1 i hi
      rw [cb 6 (by decide), cb 100 (by decide), c0 (1 + i) (by omega), m1 23 i q, m1 21 i q, m1 22 i q, m1 18 i q, m1 19 i q, m1 20 i q, m101, hR.1.2.2.2.1.1]
      exact ⟨(hR.1.2.2.1 i hi).1, rfl, y0, y1, y2, y3, y4⟩
  refine e_box (c_box (fun a1 => ?_) (fun a1 a2 => ?_) (fun a1 a2 a3 => ?_) (fun a1 a2 a3 a4 => ?_) (fun a1 a2 a3 a4 => ?_))
  · exact ⟨1, I, J, rfl, rfl, rfl, fun Q' q => d_box (fun _ => q _ (Rel_th hR) th_200 thI_0) (fun a _ => absurd a a1) (fun a _ _ => absurd a a1) (fun a _ _ => absurd a a1)⟩
  · exact ⟨2, I, J, rfl, rfl, rfl, fun Q' q => d_box (fun a => absurd a1 a) (fun _ _ => q _ (Rel_th hR) th_200 thI_0) (fun _ a _ => absurd a a2) (fun _ a _ => absurd a a2)⟩
  · exact ⟨3, I, J, rfl, rfl, rfl, fun Q' q => d_box (fun a => absurd a1 a) (fun _ a => absurd a2 a) (fun _ _ _ => q _ (Rel_th hR) th_200 thI_0) (fun _ _ a => absurd (eb.mp a3) a.1)⟩
  · refine ⟨3, _, J, rfl, rfl, ro_b (by decide), fun Q' q => d_box (fun a => absurd a1 a) (fun _ a => absurd a2 a) (fun _ _ _ => q _ (Rel_th (RelT _)) (th_200.trans (ro_b (by decide))) thI_0) (fun _ _ a => absurd ((fit a1 _ (fun b i z => ro_ne (by omega))).mpr a.2) a4)⟩
  · obtain ⟨K, hK⟩ : ∃ K, K = ro (ro I 0 0 (bxT I (nn p) w d h)) 0 (1 + nn p) (t5 (I 0 (1 + nn p)) (bxT I (nn p) w d h)) := ⟨_, rfl⟩
    rw [← hK]
    have p6 : nn p < 6 := a1.2
    have eK : ∀ b i, ¬ (b = 0) → K b i = I b i := fun b i z => by rw [hK, ro_ne (by omega), ro_ne (by omega)]
    have nac : ¬ ∃ c, c < 8 ∧ mAc K c := by
      rintro ⟨c, hc, z⟩
      refine a3 (eb.mpr ⟨c, hc, ?_⟩)
      unfold mAc at z ⊢
      rw [eK 100 27 (by decide)] at z
      exact z
    refine ⟨0, K, J, rfl, rfl, funext fun i => eK 200 i (by decide), fun Q' q => d_box (fun a => absurd a1 a) (fun _ a => absurd a2 a) (fun _ _ a => absurd ⟨nac, (fit a1 K eK).mp a4⟩ a) (fun _ _ _ => ?_)⟩
    · obtain ⟨N, hN⟩ : ∃ N, N = mbI (thI K 0) (nn p) w d h := ⟨_, rfl⟩
      rw [← hN]
      have e : ∀ b i, ¬ (b = 0 ∨ (b = 100 ∧ (i = 18 ∨ i = 19 ∨ i = 20)) ∨ b = 8) → N b i = I b i := by
        intro b i z
        rw [← eK b i (by omega), hN]
        funext f
        simp only [mbI, rf_u3, thI]
        repeat (first | rw [if_neg (by omega)] | rfl)
      have e31 : N 8 0 31 = I 8 0 31 := by
        rw [← eK 8 0 (by decide), hN]
        simp [mbI, rf_u3, thI]
      have e32 : N 8 0 32 = I 8 0 32 := by
        rw [← eK 8 0 (by decide), hN]
        simp [mbI, rf_u3, thI]
      have e0 : N 8 0 0 = 0 := by
        rw [hN]
        simp [mbI, rf_u3, thI]
      have n0 : ∀ t, N 0 (1 + t) = if t = nn p then t5 (I 0 (1 + nn p)) (bxT I (nn p) w d h) else I 0 (1 + t) := fun t => by
        have : N 0 (1 + t) = K 0 (1 + t) := by
          rw [hN]
          funext f
          simp [mbI, rf_u3, thI]
        rw [this, hK]
        by_cases z : t = nn p
        · rw [if_pos z, z, ro_self]
        · rw [if_neg z, ro_ne (by omega), ro_ne (by omega)]
      have nk : ∀ k x, (k = 18 ∧ x = w) ∨ (k = 19 ∧ x = d) ∨ (k = 20 ∧ x = h) → ∀ t, N 100 k t = if t = nn p then x else I 100 k t := by
        intro k x z t
        rw [← eK 100 k (by decide), hN]
        unfold mbI thI
        rcases z with ⟨rfl, rfl⟩ | ⟨rfl, rfl⟩ | ⟨rfl, rfl⟩ <;> simp [rf_u3]
      refine q _ ?_ (funext fun i => e 200 i (by omega)) e0
      refine ⟨⟨RD_fr hR.1.1 (funext fun i => e 2 i (by omega)) (fun k _ _ => e 100 k (by omega)) (e 101 1 (by omega)) (e 101 2 (by omega)), ?_, RP_fr hR.1.2.2.1 (funext fun i => e 6 i (by omega)) (e 100 25 (by omega)) (e 100 26 (by omega)) (e 101 3 (by omega)), RM_fr hR.1.2.2.2.1 (e 100 0 (by omega)) (e 100 1 (by omega)) (e 100 23 (by omega)) (e 100 24 (by omega)), RC_fr hR.1.2.2.2.2.1 (fun c _ => e 1 (40 + c) (by omega)) (fun c _ m _ => e 5 (4 * (40 + c) + m) (by omega)) hR.2.2.2.2.1 (fun k _ _ => e 100 k (by omega)), RG_fr hR.1.2.2.2.2.2.1 (e 100 2 (by omega)) (fun k _ _ => e 100 k (by omega)) (fun c _ hb => by rw [e 100 27 (by omega)] at hb; exact hb), RH_fr hR.1.2.2.2.2.2.2.1 (e 101 0 (by omega)) (e 101 4 (by omega)), RJ_fr hR.1.2.2.2.2.2.2.2 (funext fun i => e 3 i (by omega)) (congrFun (e 7 0 (by omega)) 11) (fun k _ => e 1 k (by omega)) (fun k _ => e 5 k (by omega)) (e 100 6 (by omega)) hR.2.2.2.2.2.2.2 e31 e32 (e 100 36 (by omega)) (e 100 37 (by omega))⟩, VD_fr hR.2.1 (e 100 10 (by omega)) (e 100 11 (by omega)) (e 100 12 (by omega)) (e 100 14 (by omega)) (e 100 16 (by omega)) (e 101 1 (by omega)) (e 101 3 (by omega)), VP_fr hR.2.2.1 (e 100 23 (by omega)) (e 100 24 (by omega)) (e 100 25 (by omega)) (e 101 3 (by omega)) (e 100 10 (by omega)), ?_, VC_fr hR.2.2.2.2.1 (fun k _ _ => e 100 k (by omega)), VA_fr hR.2.2.2.2.2.1 (fun k _ _ => e 100 k (by omega)) (e 100 23 (by omega)) (e 100 24 (by omega)) (e 100 25 (by omega)) (e 101 3 (by omega)) (fun c _ hb => by rw [e 100 27 (by omega)] at hb; exact hb), VS_fr hR.2.2.2.2.2.2.1 (fun k _ _ => e 100 k (by omega)) (e 100 24 (by omega)) (fun c _ hb => by rw [e 100 27 (by omega)]; exact hb), VJ_fr hR.2.2.2.2.2.2.2 (funext fun i => e 3 i (by omega)) (fun k _ => e 1 k (by omega)) (e 100 6 (by omega)) e31 (e 100 36 (by omega)) (e 100 37 (by omega))⟩
      · intro t ht
        obtain ⟨x0, x1, x2, x3, x4⟩ := hR.1.2.1 t ht
        rw [n0, e 100 21 (by omega), e 100 22 (by omega), nk 18 w (by simp), nk 19 d (by simp), nk 20 h (by simp)]
        by_cases z : t = nn p
        · subst z
          rw [if_pos rfl, if_pos rfl, if_pos rfl, if_pos rfl, ← x0, ← x1]
          simp [t5, bxT, uf]
        · rw [if_neg z, if_neg z, if_neg z, if_neg z]
          exact ⟨x0, x1, x2, x3, x4⟩
      · intro t ht
        obtain ⟨v1, v2, v3, v4, v5⟩ := hR.2.2.2.1 t ht
        rw [e 100 21 (by omega), e 100 22 (by omega), nk 18 w (by simp), nk 19 d (by simp), nk 20 h (by simp)]
        by_cases z : t = nn p
        · rw [if_pos z, if_pos z, if_pos z]
          exact ⟨a2.1, a2.2.1, a2.2.2, v4, v5⟩
        · rw [if_neg z, if_neg z, if_neg z]
          exact ⟨v1, v2, v3, v4, v5⟩
end PF
