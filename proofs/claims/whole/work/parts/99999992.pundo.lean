/-! the calls side by side: undo -/
section PL
variable {l : Launch} {L : Nat} {I M I' M' N K : Nat → Nat → Nat → Int32} {J : Nat → Nat → Nat → Int64} {c : Nat}
theorem p_undo (hR : Rel I I) : rf_C l 70 [dk] (sS L I J) (tpQ l L I 71 [mo]) := by
  obtain ⟨v1, v2, v3, v4⟩ := hR.2.2.2.2.2.2.2
  obtain ⟨r1, r2, r3⟩ := hR.1.2.2.2.2.2.2.2
  have lat : nn (I 3 0 2) < 40 := v1.2
  have cnt : nn (I 8 0 31) < 41 := v2.2
  have hk : ∀ i, i < nn (I 8 0 31) → ok (I 100 37 i) 8 := fun i hi => (v4 i hi).1
  have z0 : I 8 0 31 = 0 ↔ nn (I 8 0 31) = 0 := by
    constructor
    · intro q; rw [q]; rfl
    · intro q; rw [← nn_of v2.1, q]; rfl
  have jl : ¬ nn (I 8 0 31) = 0 → jpo I I (luE I) = nn (I 3 0 2) := by
    intro q
    unfold jpo luE
    omega
  have cu : ¬ nn (I 8 0 31) = 0 → I 100 6 (nn (I 3 0 2)) = I 100 37 (luE I) := by
    intro q
    have := (r3 (luE I) (by unfold luE; omega)).1
    rw [jl q] at this
    exact this
  have ev : undC I ↔ muC I := by
    unfold undC muC
    rw [r1]
    by_cases q : I 8 0 31 = 0
    · exact ⟨fun w => absurd q w.1, fun w => absurd q w.1⟩
    · have q' : ¬ nn (I 8 0 31) = 0 := fun w => q (z0.mpr w)
      rw [cu q']
      show _ ∧ ¬ busy I (40 + luC I) ↔ _
      exact and_congr Iff.rfl (not_congr (busy_eq (c := luC I) hR.1.2.2.2.2.1 (hk (luE I) (by unfold luE; omega)).2))
  refine c_undo (jrOk_of hR) (fun a1 => ?_) (fun a1 => ?_)
  · exact ⟨0, I, J, rfl, rfl, rfl, fun Q' q => d_undo v2 hk (fun _ => q _ (Rel_th hR) th_200) (fun a => absurd (ev.mpr a) a1)⟩
  · have a2 := ev.mp a1
    have q0 : ¬ nn (I 8 0 31) = 0 := fun w => a2.1 (z0.mpr w)
    obtain ⟨E, hE⟩ : ∃ E, E = luE I := ⟨_, rfl⟩
    have hE1 : nn (I 8 0 31) = E + 1 := by rw [hE, luE]; omega
    obtain ⟨k, hk'⟩ : ∃ k, k = luC I := ⟨_, rfl⟩
    obtain ⟨e1, e2, e3, e4⟩ := v4 E (by omega)
    have k8 : k < 8 := by rw [hk', luC, ← hE]; exact e1.2
    obtain ⟨y, hy⟩ : ∃ y, y = nn (I 3 0 2) := ⟨_, rfl⟩
    obtain ⟨s1, s2, s3, s4⟩ := r3 E (by omega)
    have jy : jpo I I E = y := by rw [hE, jl q0, hy]
    rw [jy] at s1 s2 s3 s4
    have ck : nn (I 100 6 y) = k := by rw [s1, hk', luC, hE]
    obtain ⟨n, hn⟩ : ∃ n, n = nn (I 1 y 1) := ⟨_, rfl⟩
    have hn2 : n = nn (I 100 36 (23 * E + 1)) := by rw [hn, s3]
    have n5 : n < 5 := by rw [hn2]; exact e3.2
    have nb : ¬ bsy (I 100 27 k) := by rw [hk']; exact a2.2
    have uI : undI I = rf_u3 (drpI (tkp I (40 + k) y n)) 7 0 11 (I 7 0 11 - 1) := by rw [undI, ← hy, ck, ← hn]
    rw [uI]
    obtain ⟨K, hK⟩ : ∃ K, K = rf_u3 (drpI (tkp I (40 + k) y n)) 7 0 11 (I 7 0 11 - 1) := ⟨_, rfl⟩
    rw [← hK]
    have kT : ∀ b i, ¬ (b = 3 ∨ b = 7) → K b i = tkp I (40 + k) y n b i := by
      intro b i h
      rw [hK, u3_b (by omega), drpI, u3_b (by omega), u3_b (by omega)]
    have kI : ∀ b i, ¬ (b = 3 ∨ b = 7 ∨ (b = 1 ∧ i = 40 + k) ∨ (b = 5 ∧ 4 * (40 + k) ≤ i ∧ i < 4 * (40 + k) + n)) → K b i = I b i := by
      intro b i h
      rw [kT b i (by omega)]
      funext f
      rw [tkp, if_neg (by omega), if_neg (by omega)]
    have mc : ∀ b i, ((b = 100) ∨ (b = 101) ∨ b = 8) → K b i = I b i := fun b i h => kI b i (by omega)
    have mK : muC K ↔ muC I := by
      unfold muC luC luE
      rw [mc 8 0 (by omega), mc 100 27 (by omega), mc 100 37 (by omega)]
    have lE : luE K = E := by rw [hE, luE, luE, mc 8 0 (by omega)]
    have lC : luC K = k := by rw [luC, lE, mc 100 37 (by omega), hk', luC, hE]
    refine ⟨1, K, J, rfl, rfl, funext fun i => kI 200 i (by omega), fun Q' q => d_undo (by rw [mc 8 0 (by omega)]; exact v2) (by rw [mc 8 0 (by omega), mc 100 37 (by omega)]; exact hk) (fun a => absurd (mK.mpr a2) a) (fun _ => ?_)⟩
    rw [lE, lC]
    obtain ⟨U, hU⟩ : ∃ U, U = unK K := ⟨_, rfl⟩
    rw [← hU]
    have u0 : ∀ b i, ¬ (b = 8 ∨ (b = 100 ∧ (i = 28 ∨ i = 29))) → U b i = K b i := by
      intro b i h
      funext f
      rw [hU, unK, rf_u3, if_neg (by omega), rf_u3, if_neg (by omega), rf_u3, if_neg (by omega), rf_u3, if_neg (by omega), thI_b (by omega)]
    have u28 : U 100 28 = uf (I 100 28) k (I 100 36 (23 * E)) := by
      rw [hU, unK, lE, lC, mc 100 36 (by omega), ← mc 100 28 (by omega)]
      funext f
      simp [rf_u3, uf, thI]
    have u29 : U 100 29 = uf (I 100 29) k (I 100 36 (23 * E + 1)) := by
      rw [hU, unK, lE, lC, mc 100 36 (by omega), ← mc 100 29 (by omega)]
      funext f
      simp [rf_u3, uf, thI]
    have u31 : U 8 0 31 = Int32.ofNat E := by
      rw [hU, unK, lE]
      simp [rf_u3]
    have u32 : U 8 0 32 = I 8 0 32 - 1 := by
      rw [hU, unK, mc 8 0 (by omega)]
      simp [rf_u3]
    obtain ⟨N, hN⟩ : ∃ N, N = muI U E k 4 := ⟨_, rfl⟩
    rw [← hN]
    have nU : ∀ b i, ¬ (b = 100 ∧ 30 ≤ i ∧ i < 35) → N b i = U b i := by
      intro b i h
      funext f
      rw [hN, muI, if_neg (by omega)]
    have nK : ∀ b i, ¬ (b = 8 ∨ (b = 100 ∧ 28 ≤ i ∧ i < 35)) → N b i = K b i := fun b i h => by rw [nU b i (by omega), u0 b i (by omega)]
    have nI : ∀ b i, ¬ (b = 8 ∨ (b = 100 ∧ 28 ≤ i ∧ i < 35) ∨ b = 3 ∨ b = 7 ∨ (b = 1 ∧ i = 40 + k) ∨ (b = 5 ∧ 4 * (40 + k) ≤ i ∧ i < 4 * (40 + k) + n)) → N b i = I b i := fun b i h => by rw [nK b i (by omega), kI b i (by omega)]
    have n30 : ∀ f, f < 5 → ∀ d m, d < 8 → m < 4 → mP N d f m = if d = k then I 100 36 (23 * E + 3 + f + 5 * m) else mP I d f m := by
      intro f hf d m hd hm
      show N 100 (30 + f) (4 * d + m) = _
      rw [hN, muI]
      by_cases z : d = k
      · have x1 : 30 + f - 30 = f := by omega
        have x2 : 4 * d + m - 4 * k = m := by omega
        rw [if_pos (by omega), if_pos z, x1, x2, u0 100 36 (by omega), mc 100 36 (by omega)]
      · rw [if_neg (by omega), if_neg z, u0 100 (30 + f) (by omega), mc 100 (30 + f) (by omega)]
        rfl
    have c31 : nn (N 8 0 31) = E := by rw [nU 8 0 (by omega), u31]; exact nn_nat (by omega)
    have c32 : nn (N 3 0 2) = (y + 39) % 40 := by
      have : N 3 0 2 = Int32.ofNat ((y + 39) % 40) := by
        rw [nK 3 0 (by omega), hK, hy, u3_b (by decide), drpI, tkp_b (by decide) (by decide)]
        simp [rf_u3]
      rw [this]
      exact nn_nat (by omega)
    have jp : ∀ i, i < E → jpo N N i = jpo I I i := by
      intro i hi
      unfold jpo
      rw [c31, c32, ← hy, hE1]
      omega
    have jq : ∀ i, jpo I I i < 40 := fun i => Nat.mod_lt _ (by decide)
    have t1 : ∀ f, f = 1 ∨ f = 2 → N 1 (40 + k) f = I 1 y f := fun f hf => by
      rw [nK 1 _ (by omega), kT 1 _ (by omega), tkp, if_pos ⟨rfl, rfl, hf⟩]
    have t3 : N 1 (40 + k) 3 = I 1 (40 + k) 3 := by
      rw [nK 1 _ (by omega), kT 1 _ (by omega), tkp, if_neg (by omega), if_neg (by omega)]
    have t5' : ∀ m, m < n → ∀ f, f < 5 → N 5 (4 * (40 + k) + m) f = I 5 (4 * y + m) f := by
      intro m hm f hf
      have x : 4 * (40 + k) + m - 4 * (40 + k) = m := by omega
      rw [nK 5 _ (by omega), kT 5 _ (by omega), tkp, if_neg (by omega), if_pos (by omega), x]
    have eN : mN N k = n := by
      unfold mN
      rw [nU 100 29 (by omega), u29, uf, if_pos rfl, hn2]
    refine q _ ?_ (by funext i; rw [nI 200 i (by omega)])
    refine edit_rel hR k8 nb ?_ ?_ (fun b i h => nI b i (by omega)) (fun d hd z => nI 1 _ (by omega)) (fun d hd z m hm => nI 5 _ (by omega)) (fun d hd z => by rw [nU 100 28 (by omega), u28, uf, if_neg z]) (fun d hd z => by rw [nU 100 29 (by omega), u29, uf, if_neg z]) (fun i h h' d hd z m hm => ?_) t3 ?_ ?_ ?_ ?_
    · refine ⟨?_, ?_, fun i hi => ?_⟩
      · rw [nU 8 0 (by omega), u31, nK 3 0 (by omega), hK, u3_b (by decide), drpI]
        have : rf_u3 (rf_u3 (tkp I (40 + k) y n) 3 0 2 (Int32.ofNat ((nn (tkp I (40 + k) y n 3 0 2) + 39) % 40))) 3 0 3 (tkp I (40 + k) y n 3 0 3 - 1) 3 0 3 = tkp I (40 + k) y n 3 0 3 - 1 := by simp [rf_u3]
        rw [this, tkp_b (by decide) (by decide), r1, ← nn_of v2.1, hE1, nt_pred]
      · rw [nU 8 0 (by omega), u32, nK 7 0 (by omega), hK, ← r2]
        simp [rf_u3]
      · rw [c31] at hi
        obtain ⟨g1, g2, g3, g4⟩ := r3 i (by omega)
        have := jq i
        rw [jp i hi, nI 100 6 (by omega), nI 100 37 (by omega), nI 100 36 (by omega), nI 1 _ (by omega)]
        refine ⟨g1, g2, g3, fun m hm f hf => ?_⟩
        have m5 : nn (I 100 36 (23 * i + 1)) < 5 := (v4 i (by omega)).2.2.1.2
        rw [nI 5 _ (by omega)]
        exact g4 m hm f hf
    · refine ⟨?_, ?_, fun i hi => ?_, fun i hi => ?_⟩
      · refine ⟨?_, ?_⟩
        · have : N 3 0 2 = Int32.ofNat ((y + 39) % 40) := by
            rw [nK 3 0 (by omega), hK, hy, u3_b (by decide), drpI, tkp_b (by decide) (by decide)]
            simp [rf_u3]
          rw [this]
          exact (nt_ix (n := 40) (Nat.mod_lt _ (by decide)) (by decide)).1
        · show nn (N 3 0 2) < 40
          rw [c32]
          exact Nat.mod_lt _ (by decide)
      · rw [nU 8 0 (by omega), u31]
        exact nt_ix (n := 41) (by omega) (by decide)
      · rw [nI 1 i (by omega), nI 100 6 (by omega)]
        exact v3 i hi
      · rw [c31] at hi
        rw [nI 100 37 (by omega), nI 100 36 (by omega)]
        exact v4 i (by omega)
    · have ei : i = 30 + (i - 30) := by omega
      have := n30 (i - 30) (by omega) d m hd hm
      rw [if_neg z] at this
      rw [ei]
      exact this
    · rw [t1 2 (Or.inr rfl), nU 100 28 (by omega), u28, uf, if_pos rfl, s2]
    · rw [t1 1 (Or.inl rfl), nU 100 29 (by omega), u29, uf, if_pos rfl, s3]
    · intro m hm f hf
      rw [eN] at hm
      rw [t5' m hm f hf, n30 f hf k m k8 (by omega), if_pos rfl]
      exact s4 m (by omega) f hf
    · rw [nU 100 28 (by omega), u28, uf, if_pos rfl, nU 100 29 (by omega), u29, uf, if_pos rfl, eN]
      refine ⟨e2, e3, ?_⟩
      rw [← hn2] at e4
      exact pnOk_cg (fun f m hf hm => by rw [n30 f hf k m k8 (by omega), if_pos rfl]) e4
end PL
