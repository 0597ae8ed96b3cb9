/-! the calls side by side: the edits -/
section PJ
variable {l : Launch} {L : Nat} {I M I' M' N K : Nat → Nat → Nat → Int32} {J : Nat → Nat → Nat → Int64} {c : Nat}
/-- an edit of a cue that is not active -/
theorem edit_rel (hR : Rel I I) (hc : c < 8) (nb : ¬ bsy (I 100 27 c)) (hJ : RJ N N) (hV : VJ N N)
    (e : ∀ b i, ¬ (b = 1 ∨ b = 5 ∨ b = 3 ∨ b = 7 ∨ (b = 100 ∧ (i = 6 ∨ (28 ≤ i ∧ i < 35) ∨ i = 36 ∨ i = 37)) ∨ b = 8) → N b i = I b i)
    (n1 : ∀ d, d < 8 → ¬ d = c → N 1 (40 + d) = I 1 (40 + d)) (n5 : ∀ d, d < 8 → ¬ d = c → ∀ m, m < 4 → N 5 (4 * (40 + d) + m) = I 5 (4 * (40 + d) + m))
    (n28 : ∀ d, d < 8 → ¬ d = c → N 100 28 d = I 100 28 d) (n29 : ∀ d, d < 8 → ¬ d = c → N 100 29 d = I 100 29 d) (n30 : ∀ k, 30 ≤ k → k < 35 → ∀ d, d < 8 → ¬ d = c → ∀ m, m < 4 → N 100 k (4 * d + m) = I 100 k (4 * d + m))
    (h1 : N 1 (40 + c) 3 = I 1 (40 + c) 3) (h2 : N 1 (40 + c) 2 = N 100 28 c) (h3 : N 1 (40 + c) 1 = N 100 29 c) (h4 : ∀ m, m < mN N c → ∀ f, f < 5 → N 5 (4 * (40 + c) + m) f = mP N c f m)
    (h5 : ok (N 100 28 c) 3 ∧ ok (N 100 29 c) 5 ∧ pnOk (mP N c) (mN N c)) : Rel N N := by
  have e27 : N 100 27 = I 100 27 := e 100 27 (by omega)
  have eN : ∀ d, d < 8 → ¬ d = c → mN N d = mN I d := fun d hd q => by
    unfold mN
    rw [n29 d hd q]
  have eP : ∀ d, d < 8 → ¬ d = c → ∀ f m, f < 5 → m < 4 → mP N d f m = mP I d f m := fun d hd q f m hf hm => n30 (30 + f) (by omega) (by omega) d hd q m hm
  have n5' : ∀ d, d < 8 → mN I d < 5 := fun d hd => (hR.2.2.2.2.1 d hd).2.1.2
  have ac : ∀ d, bsy (N 100 27 d) → bsy (I 100 27 d) ∧ ¬ d = c := fun d b => by
    rw [e27] at b
    exact ⟨b, fun q => nb (q ▸ b)⟩
  refine ⟨⟨RD_fr hR.1.1 (funext fun i => e 2 i (by omega)) (fun k _ _ => e 100 k (by omega)) (e 101 1 (by omega)) (e 101 2 (by omega)), RB_fr hR.1.2.1 (fun p _ => e 0 (1 + p) (by omega)) (fun k _ _ => e 100 k (by omega)), RP_fr hR.1.2.2.1 (funext fun i => e 6 i (by omega)) (e 100 25 (by omega)) (e 100 26 (by omega)) (e 101 3 (by omega)), RM_fr hR.1.2.2.2.1 (e 100 0 (by omega)) (e 100 1 (by omega)) (e 100 23 (by omega)) (e 100 24 (by omega)), ?_, ?_, RH_fr hR.1.2.2.2.2.2.2.1 (e 101 0 (by omega)) (e 101 4 (by omega)), ?_⟩, VD_fr hR.2.1 (e 100 10 (by omega)) (e 100 11 (by omega)) (e 100 12 (by omega)) (e 100 14 (by omega)) (e 100 16 (by omega)) (e 101 1 (by omega)) (e 101 3 (by omega)), VP_fr hR.2.2.1 (e 100 23 (by omega)) (e 100 24 (by omega)) (e 100 25 (by omega)) (e 101 3 (by omega)) (e 100 10 (by omega)), VB_fr hR.2.2.2.1 (fun k _ _ => e 100 k (by omega)), ?_, ?_, ?_, ?_⟩
  · intro d hd
    by_cases q : d = c
    · subst q
      rw [e27, ← (hR.1.2.2.2.2.1 d hd).1]
      exact ⟨h1, h2, h3, h4⟩
    · obtain ⟨g1, g2, g3, g4⟩ := hR.1.2.2.2.2.1 d hd
      rw [n1 d hd q, e27, n28 d hd q, n29 d hd q, eN d hd q]
      refine ⟨g1, g2, g3, fun m hm f hf => ?_⟩
      have := n5' d hd
      rw [n5 d hd q m (by omega), eP d hd q f m hf (by omega)]
      exact g4 m hm f hf
  · intro d hd b m hm
    obtain ⟨b', q⟩ := ac d b
    rw [eN d hd q] at hm
    have := n5' d hd
    have eB : mB N d m = mB I d m := by
      unfold mB
      rw [e 100 35 (by omega)]
    rw [e 100 2 (by omega), eP d hd q 0 m (by decide) (by omega), eB]
    exact hR.1.2.2.2.2.2.1 d hd b' m hm
  · exact hJ
  · intro d hd
    by_cases q : d = c
    · subst q; exact h5
    · obtain ⟨g1, g2, g3⟩ := hR.2.2.2.2.1 d hd
      have := n5' d hd
      rw [n28 d hd q, n29 d hd q, eN d hd q]
      exact ⟨g1, g2, pnOk_cg (fun f m hf hm => eP d hd q f m hf (by omega)) g3⟩
  · intro d hd b m hm
    obtain ⟨b', q⟩ := ac d b
    rw [eN d hd q] at hm
    have n4 := n5' d hd
    have eB : mB N d m = mB I d m := by
      unfold mB
      rw [e 100 35 (by omega)]
    obtain ⟨g1, g2, g3, g4⟩ := hR.2.2.2.2.2.1 d hd b' m hm
    rw [eP d hd q 0 m (by decide) (by omega), eP d hd q 1 m (by decide) (by omega), eB, e 101 3 (by omega), e 100 25 (by omega), e 100 23 (by omega), e 100 24 (by omega)]
    refine ⟨g1, g2, g3, fun k hk bk j hj w => ?_⟩
    obtain ⟨bk', qk⟩ := ac k bk
    rw [eN k hk qk] at hj
    have := n5' k hk
    rw [eP k hk qk 0 j (by decide) (by omega)] at w
    exact g4 k hk bk' j hj w
  · intro p hp w
    rw [e 100 24 (by omega)]
    refine hR.2.2.2.2.2.2.1 p hp fun d hd b m hm => ?_
    have q : ¬ d = c := fun z => nb (z ▸ b)
    have n4 := n5' d hd
    have := w d hd (by rw [e27]; exact b) m (by rw [eN d hd q]; exact hm)
    rw [eP d hd q 0 m (by decide) (by omega)] at this
    exact this
  · exact hV
theorem jrOk_of (hR : Rel I I) : jrOk I := by
  obtain ⟨v1, v2, v3, _⟩ := hR.2.2.2.2.2.2.2
  refine ⟨v1, by rw [hR.1.2.2.2.2.2.2.2.1]; exact v2, fun c hc => ?_, v3⟩
  rw [(hR.1.2.2.2.2.1 c hc).2.2.1]
  exact (hR.2.2.2.2.1 c hc).2.1
/-- behind an edit that was kept, the journals agree -/
theorem keep_N (hR : Rel I I) (hc : c < 8) (mc : ∀ b i, ((b = 100 ∧ 10 ≤ i) ∨ (b = 101 ∧ 1 ≤ i) ∨ b = 8) → K b i = I b i)
    (n3 : N 3 = remI I c 3) (n7 : N 7 0 11 = remI I c 7 0 11) (n1 : ∀ k, k < 40 → N 1 k = remI I c 1 k) (n5 : ∀ k, k < 160 → N 5 k = remI I c 5 k) (n6 : N 100 6 = remI I c 100 6)
    (n31 : N 8 0 31 = kpI (thI K 0) c 8 0 31) (n32 : N 8 0 32 = kpI (thI K 0) c 8 0 32) (n36 : N 100 36 = kpI (thI K 0) c 100 36) (n37 : N 100 37 = kpI (thI K 0) c 100 37) : RJ N N ∧ VJ N N := by
  have r : Rel I (thI K 0) := Rel_eq hR (fun _ _ _ => rfl) (fun b i h => by rw [thI_b (by omega), mc b i (by omega)]) (by rw [thI_8 (by decide), mc 8 0 (by omega)]) (by rw [thI_8 (by decide), mc 8 0 (by omega)])
  obtain ⟨j1, j2⟩ := keep_J (c := c) r.1.2.2.2.2.2.2.2 r.2.2.2.2.2.2.2 r.1.2.2.2.2.1 r.2.2.2.2.1 hc
  exact ⟨RJ_fr j1 n3 n7 n1 n5 n6 j2 n31 n32 n36 n37, VJ_fr j2 n3 n1 n6 n31 n36 n37⟩
theorem jr40 : jrL I < 40 := Nat.mod_lt _ (by decide)
theorem rem_q {d : Nat} : remI I c 1 (40 + d) = I 1 (40 + d) := by
  funext f
  have := jr40 (I := I)
  rw [rmm_1, if_neg (by omega)]
theorem rem_m {d m : Nat} (h : nn (I 1 (40 + c) 1) < 5) : remI I c 5 (4 * (40 + d) + m) = I 5 (4 * (40 + d) + m) := by
  funext f
  have := jr40 (I := I)
  rw [rmm_5, if_neg (by omega)]
theorem p_station {c s : Int32} (hR : Rel I I) : rf_C l 54 [dk, .inl c, .inl s] (sS L I J) (tpN l L I 56 [mo, .inl c, .inl s]) := by
  have he : ok (I 8 0 31) 41 := hR.2.2.2.2.2.2.2.2.1
  have be : ok c 8 → (busy I (40 + nn c) ↔ bsy (I 100 27 (nn c))) := fun a => busy_eq hR.1.2.2.2.2.1 a.2
  refine e_station (c_station (jrOk_of hR) (fun a1 => ?_) (fun a1 a2 a3 => ?_) (fun a1 a2 a3 => ?_))
  · exact ⟨1, I, J, rfl, rfl, rfl, fun Q' q => d_station he (fun _ => q _ (Rel_th hR) th_200 thI_0) (fun a b _ => absurd ⟨a, b⟩ a1) (fun a b _ => absurd ⟨a, b⟩ a1)⟩
  · rw [be a1] at a3
    exact ⟨2, I, J, rfl, rfl, rfl, fun Q' q => d_station he (fun a => absurd ⟨a1, a2⟩ a) (fun _ _ _ => q _ (Rel_th hR) th_200 thI_0) (fun _ _ a => absurd a3 a)⟩
  · rw [be a1] at a3
    obtain ⟨k, hk⟩ : ∃ k, k = nn c := ⟨_, rfl⟩
    have k8 : k < 8 := by rw [hk]; exact a1.2
    rw [← hk] at a3 ⊢
    obtain ⟨K, hK⟩ : ∃ K, K = rf_u3 (remI I k) 1 (40 + k) 2 s := ⟨_, rfl⟩
    rw [← hK]
    have mc : ∀ b i, ((b = 100 ∧ 10 ≤ i) ∨ (b = 101 ∧ 1 ≤ i) ∨ b = 8) → K b i = I b i := fun b i h => by rw [hK, u3_b (by omega), rmm_o (by omega)]
    refine ⟨0, K, J, rfl, rfl, by rw [hK, u3_b (by decide)]; funext i; exact rmm_o (by omega), fun Q' q => d_station (by rw [mc 8 0 (by omega)]; exact he) (fun a => absurd ⟨a1, a2⟩ a) (fun _ _ a => absurd a ?_) (fun _ _ _ => ?_)⟩
    · rw [← hk, mc 100 27 (by omega)]; exact a3
    rw [← hk]
    obtain ⟨N, hN⟩ : ∃ N, N = rf_u3 (kpI (thI K 0) k) 100 28 k s := ⟨_, rfl⟩
    rw [← hN]
    have nk : ∀ b i, ¬ (b = 100 ∧ i = 28) → N b i = kpI (thI K 0) k b i := fun b i h => by
      funext f
      rw [hN, rf_u3, if_neg (by omega)]
    have nK : ∀ b i, ¬ (b = 8 ∨ (b = 100 ∧ (i = 28 ∨ i = 36 ∨ i = 37))) → N b i = K b i := fun b i h => by rw [nk b i (by omega), kpI_k (by omega), thI_b (by omega)]
    have nR : ∀ b i, ¬ (b = 8 ∨ (b = 100 ∧ (i = 28 ∨ i = 36 ∨ i = 37)) ∨ (b = 1 ∧ i = 40 + k)) → N b i = remI I k b i := fun b i h => by
      rw [nK b i (by omega), hK]
      funext f
      rw [rf_u3, if_neg (by omega)]
    have c5 : nn (I 1 (40 + k) 1) < 5 := ((jrOk_of hR).2.2.1 k k8).2
    obtain ⟨j1, j2⟩ := keep_N (N := N) (K := K) hR k8 mc (funext fun i => nR 3 i (by omega)) (by rw [nR 7 0 (by omega)]) (fun i h => nR 1 i (by omega)) (fun i h => nR 5 i (by omega)) (nR 100 6 (by omega)) (by rw [nk 8 0 (by omega)]) (by rw [nk 8 0 (by omega)]) (nk 100 36 (by omega)) (nk 100 37 (by omega))
    have e0 : N 8 0 0 = 0 := by rw [nk 8 0 (by omega), kpI_8 (by decide) (by decide), thI_0]
    have n28 : N 100 28 = uf (I 100 28) k s := by
      rw [← mc 100 28 (by omega), hN, u3_ro, ro_self, kpI_o (by decide) (by decide), thI_b (by decide)]
    have m30 : ∀ i, 29 ≤ i → i < 35 → N 100 i = I 100 i := fun i h h' => by rw [nK 100 i (by omega), mc 100 i (by omega)]
    obtain ⟨g1, g2, g3, g4⟩ := hR.1.2.2.2.2.1 k k8
    have q1 : ∀ f, N 1 (40 + k) f = if f = 2 then s else I 1 (40 + k) f := fun f => by
      rw [nK 1 (40 + k) (by omega), hK, rf_u3, rem_q]
      by_cases z : f = 2
      · rw [if_pos ⟨rfl, rfl, z⟩, if_pos z]
      · rw [if_neg (fun y => z y.2.2), if_neg z]
    have eN : mN N k = mN I k := mN_fr (m30 29 (by omega) (by omega))
    have eP : ∀ f m, f < 5 → mP N k f m = mP I k f m := fun f m hf => mP_fr (fun i h h' => m30 i (by omega) h') hf
    refine q _ ?_ (by funext i; rw [nR 200 i (by omega), rmm_o (by omega)]) e0
    refine edit_rel hR k8 a3 j1 j2 (fun b i h => by rw [nR b i (by omega), rmm_o (by omega)]) (fun d hd z => by rw [nR 1 (40 + d) (by omega), rem_q]) (fun d hd z m hm => by rw [nR 5 _ (by omega), rem_m c5]) (fun d hd z => by rw [n28, uf, if_neg z]) (fun d hd z => by rw [m30 29 (by omega) (by omega)]) (fun i h h' d hd z m hm => by rw [m30 i (by omega) h']) ?_ ?_ ?_ ?_ ?_
    · rw [q1, if_neg (by decide)]
    · rw [q1, if_pos rfl, n28, uf, if_pos rfl]
    · rw [q1, if_neg (by decide), m30 29 (by omega) (by omega)]; exact g3
    · intro m hm f hf
      rw [eN] at hm
      rw [nR 5 _ (by omega), rem_m c5, eP f m hf]
      exact g4 m hm f hf
    · obtain ⟨v1, v2, v3⟩ := hR.2.2.2.2.1 k k8
      rw [n28, uf, if_pos rfl, m30 29 (by omega) (by omega), eN]
      exact ⟨a2, v2, pnOk_cg (fun f m hf _ => eP f m hf) v3⟩
theorem p_clear {c : Int32} (hR : Rel I I) : rf_C l 65 [dk, .inl c] (sS L I J) (tpN l L I 66 [mo, .inl c]) := by
  have he : ok (I 8 0 31) 41 := hR.2.2.2.2.2.2.2.2.1
  have be : ok c 8 → (busy I (40 + nn c) ↔ bsy (I 100 27 (nn c))) := fun a => busy_eq hR.1.2.2.2.2.1 a.2
  refine e_clear (c_clear (jrOk_of hR) (fun a1 => ?_) (fun a1 a3 => ?_) (fun a1 a3 => ?_))
  · exact ⟨1, I, J, rfl, rfl, rfl, fun Q' q => d_clear he (fun _ => q _ (Rel_th hR) th_200 thI_0) (fun a _ => absurd a a1) (fun a _ => absurd a a1)⟩
  · rw [be a1] at a3
    exact ⟨2, I, J, rfl, rfl, rfl, fun Q' q => d_clear he (fun a => absurd a1 a) (fun _ _ => q _ (Rel_th hR) th_200 thI_0) (fun _ a => absurd a3 a)⟩
  · rw [be a1] at a3
    obtain ⟨k, hk⟩ : ∃ k, k = nn c := ⟨_, rfl⟩
    have k8 : k < 8 := by rw [hk]; exact a1.2
    rw [← hk] at a3 ⊢
    obtain ⟨K, hK⟩ : ∃ K, K = rf_u3 (remI I k) 1 (40 + k) 1 0 := ⟨_, rfl⟩
    rw [← hK]
    have mc : ∀ b i, ((b = 100 ∧ 10 ≤ i) ∨ (b = 101 ∧ 1 ≤ i) ∨ b = 8) → K b i = I b i := fun b i h => by rw [hK, u3_b (by omega), rmm_o (by omega)]
    refine ⟨0, K, J, rfl, rfl, by rw [hK, u3_b (by decide)]; funext i; exact rmm_o (by omega), fun Q' q => d_clear (by rw [mc 8 0 (by omega)]; exact he) (fun a => absurd a1 a) (fun _ a => absurd a ?_) (fun _ _ => ?_)⟩
    · rw [← hk, mc 100 27 (by omega)]; exact a3
    rw [← hk]
    obtain ⟨N, hN⟩ : ∃ N, N = rf_u3 (kpI (thI K 0) k) 100 29 k 0 := ⟨_, rfl⟩
    rw [← hN]
    have nk : ∀ b i, ¬ (b = 100 ∧ i = 29) → N b i = kpI (thI K 0) k b i := fun b i h => by
      funext f
      rw [hN, rf_u3, if_neg (by omega)]
    have nK : ∀ b i, ¬ (b = 8 ∨ (b = 100 ∧ (i = 29 ∨ i = 36 ∨ i = 37))) → N b i = K b i := fun b i h => by rw [nk b i (by omega), kpI_k (by omega), thI_b (by omega)]
    have nR : ∀ b i, ¬ (b = 8 ∨ (b = 100 ∧ (i = 29 ∨ i = 36 ∨ i = 37)) ∨ (b = 1 ∧ i = 40 + k)) → N b i = remI I k b i := fun b i h => by
      rw [nK b i (by omega), hK]
      funext f
      rw [rf_u3, if_neg (by omega)]
    have c5 : nn (I 1 (40 + k) 1) < 5 := ((jrOk_of hR).2.2.1 k k8).2
    obtain ⟨j1, j2⟩ := keep_N (N := N) (K := K) hR k8 mc (funext fun i => nR 3 i (by omega)) (by rw [nR 7 0 (by omega)]) (fun i h => nR 1 i (by omega)) (fun i h => nR 5 i (by omega)) (nR 100 6 (by omega)) (by rw [nk 8 0 (by omega)]) (by rw [nk 8 0 (by omega)]) (nk 100 36 (by omega)) (nk 100 37 (by omega))
    have e0 : N 8 0 0 = 0 := by rw [nk 8 0 (by omega), kpI_8 (by decide) (by decide), thI_0]
    have n29 : N 100 29 = uf (I 100 29) k 0 := by
      rw [← mc 100 29 (by omega), hN, u3_ro, ro_self, kpI_o (by decide) (by decide), thI_b (by decide)]
    have m30 : ∀ i, 28 ≤ i → i < 35 → ¬ i = 29 → N 100 i = I 100 i := fun i h h' h'' => by rw [nK 100 i (by omega), mc 100 i (by omega)]
    obtain ⟨g1, g2, g3, g4⟩ := hR.1.2.2.2.2.1 k k8
    have q1 : ∀ f, N 1 (40 + k) f = if f = 1 then 0 else I 1 (40 + k) f := fun f => by
      rw [nK 1 (40 + k) (by omega), hK, rf_u3, rem_q]
      by_cases z : f = 1
      · rw [if_pos ⟨rfl, rfl, z⟩, if_pos z]
      · rw [if_neg (fun y => z y.2.2), if_neg z]
    have eN : mN N k = 0 := by
      unfold mN
      rw [n29, uf, if_pos rfl]
      rfl
    refine q _ ?_ (by funext i; rw [nR 200 i (by omega), rmm_o (by omega)]) e0
    refine edit_rel hR k8 a3 j1 j2 (fun b i h => by rw [nR b i (by omega), rmm_o (by omega)]) (fun d hd z => by rw [nR 1 (40 + d) (by omega), rem_q]) (fun d hd z m hm => by rw [nR 5 _ (by omega), rem_m c5]) (fun d hd z => by rw [m30 28 (by omega) (by omega) (by omega)]) (fun d hd z => by rw [n29, uf, if_neg z]) (fun i h h' d hd z m hm => by rw [m30 i (by omega) h' (by omega)]) ?_ ?_ ?_ ?_ ?_
    · rw [q1, if_neg (by decide)]
    · rw [q1, if_neg (by decide), m30 28 (by omega) (by omega) (by omega)]; exact g2
    · rw [q1, if_pos rfl, n29, uf, if_pos rfl]
    · intro m hm
      rw [eN] at hm
      exact absurd hm (by omega)
    · obtain ⟨v1, v2, v3⟩ := hR.2.2.2.2.1 k k8
      rw [m30 28 (by omega) (by omega) (by omega), n29, uf, if_pos rfl, eN]
      exact ⟨v1, ⟨by decide, by decide⟩, fun m hm => absurd hm (by omega)⟩
end PJ
