/-! the calls side by side: move, after, undo -/
section PK
variable {l : Launch} {L : Nat} {I M I' M' N K : Nat → Nat → Nat → Int32} {J : Nat → Nat → Nat → Int64} {c : Nat}
theorem ok4_eq {x : Int32} (h : ok x 5) : ok x 4 ↔ ¬ x = 4 := by
  have h2 : nn x < 5 := h.2
  constructor
  · intro q e
    rw [e] at q
    exact absurd q.2 (by decide)
  · intro q
    refine ⟨h.1, ?_⟩
    have : ¬ nn x = 4 := fun e => q (by rw [← nn_of h.1, e]; rfl)
    show nn x < 4
    omega
theorem mv_eq {c : Nat} {p g t : Int32} (hR : Rel I I) (hc : c < 8) : mvA I c p g t ↔ mvM I c p g t := by
  unfold mvA mvM
  rw [has_eq hR.1.2.2.2.2.1 hc]
theorem top_ok {t : Int32} (h : 1 ≤ t ∧ t ≤ 12) : ok t 13 := by
  have h0 : 0 ≤ t := Int32.le_trans (by decide) h.1
  refine ⟨h0, ?_⟩
  have := (nn_le (i := 12) h0 (by decide)).mp h.2
  show nn t < 13
  omega
theorem p_move {c p g t : Int32} (hR : Rel I I) : rf_C l 59 [dk, .inl c, .inl p, .inl g, .inl t, ol] (sS L I J) (tpV l L I 60 [mo, .inl c, .inl p, .inl g, .inl t]) := by
  have he : ok (I 8 0 31) 41 := hR.2.2.2.2.2.2.2.2.1
  have hn : ∀ c, c < 8 → ok (I 100 29 c) 5 := fun c hc => (hR.2.2.2.2.1 c hc).2.1
  have be : ok c 8 → (busy I (40 + nn c) ↔ bsy (I 100 27 (nn c))) := fun a => busy_eq hR.1.2.2.2.2.1 a.2
  have ce : ok c 8 → I 1 (40 + nn c) 1 = I 100 29 (nn c) := fun a => (hR.1.2.2.2.2.1 (nn c) a.2).2.2.1
  have me : ok c 8 → (mvA I (nn c) p g t ↔ mvM I (nn c) p g t) := fun a => mv_eq hR a.2
  refine e_move (c_move (jrOk_of hR) (fun a1 => ?_) (fun a1 a2 a3 => ?_) (fun a1 a2 a3 a4 => ?_) (fun a1 a2 a3 a4 a5 => ?_))
  · exact ⟨1, I, J, rfl, rfl, rfl, fun Q' q => d_move he hn (fun _ => q _ _ (Rel_th hR) th_200 thI_0 (fun z => absurd z (by decide))) (fun a b _ => absurd ⟨a, b⟩ a1) (fun a b _ _ => absurd ⟨a, b⟩ a1) (fun a b _ _ _ => absurd ⟨a, b⟩ a1)⟩
  · rw [me a1] at a3
    exact ⟨2, I, J, rfl, rfl, rfl, fun Q' q => d_move he hn (fun a => absurd ⟨a1, a2⟩ a) (fun _ _ _ => q _ _ (Rel_th hR) th_200 thI_0 (fun z => absurd z (by decide))) (fun _ _ a _ => absurd a a3) (fun _ _ a _ _ => absurd a a3)⟩
  · rw [me a1] at a3
    rw [be a1, ce a1, ok4_eq (hn (nn c) a1.2)] at a4
    exact ⟨3, I, J, rfl, rfl, rfl, fun Q' q => d_move he hn (fun a => absurd ⟨a1, a2⟩ a) (fun _ _ a => absurd a3 a) (fun _ _ _ _ => q _ _ (Rel_th hR) th_200 thI_0 (fun z => absurd z (by decide))) (fun _ _ _ a b => absurd ⟨a, b⟩ a4)⟩
  · rw [me a1] at a3
    rw [be a1] at a4
    have a5' := a5
    rw [ce a1] at a5'
    have c4 : ¬ I 100 29 (nn c) = 4 := (ok4_eq (hn (nn c) a1.2)).mp a5'
    obtain ⟨k, hk⟩ : ∃ k, k = nn c := ⟨_, rfl⟩
    have k8 : k < 8 := by rw [hk]; exact a1.2
    have cek := ce a1
    rw [← hk] at a3 a4 a5 a5' c4 cek ⊢
    obtain ⟨n, hn'⟩ : ∃ n, n = nn (I 100 29 k) := ⟨_, rfl⟩
    have n4 : n < 4 := by rw [hn']; exact a5'.2
    have en : I 100 29 k = Int32.ofNat n := by rw [hn']; exact (nn_of a5'.1).symm
    obtain ⟨K, hK⟩ : ∃ K, K = apI (remI I k) (40 + k) p g t := ⟨_, rfl⟩
    rw [← hK]
    have kR : ∀ b i, ¬ ((b = 5 ∧ i = 4 * (40 + k) + n) ∨ (b = 1 ∧ i = 40 + k)) → K b i = remI I k b i := by
      intro b i h
      rw [hK, apI]
      funext f
      rw [rf_u3, if_neg (by omega), rem_q, cek, ← hn', ro_ne (by omega)]
    have mc : ∀ b i, ((b = 100 ∧ 10 ≤ i) ∨ (b = 101 ∧ 1 ≤ i) ∨ b = 8) → K b i = I b i := fun b i h => by rw [kR b i (by omega), rmm_o (by omega)]
    have vK : VC K := VC_fr hR.2.2.2.2.1 (fun i h h' => mc 100 i (by omega))
    have mK : mvM K k p g t ↔ mvM I k p g t := by
      unfold mvM mHas mN mP
      rw [mc 100 29 (by omega), mc 100 30 (by omega)]
    refine ⟨z102, 0, K, _, rfl, rfl, by funext i; rw [kR 200 i (by omega), rmm_o (by omega)], fun Q' q => d_move (by rw [mc 8 0 (by omega)]; exact he) (fun c hc => (vK c hc).2.1) (fun a => absurd ⟨a1, a2⟩ a) (fun _ _ a => absurd ?_ a) (fun _ _ _ a => absurd ?_ a) (fun _ _ _ _ _ => ?_)⟩
    · rw [← hk]; exact mK.mpr a3
    · rw [← hk, mc 100 27 (by omega), mc 100 29 (by omega)]; exact ⟨a4, c4⟩
    rw [← hk, mc 100 29 (by omega), ← hn']
    obtain ⟨i0, hi0⟩ : ∃ i0, i0 = 4 * k + n := ⟨_, rfl⟩
    rw [← hi0]
    obtain ⟨N, hN⟩ : ∃ N, N = maI (kpI (thI K 0) k) k i0 p g t := ⟨_, rfl⟩
    rw [← hN]
    have nk : ∀ b i, ¬ (b = 100 ∧ 29 ≤ i ∧ i ≤ 34) → N b i = kpI (thI K 0) k b i := fun b i h => by
      funext f
      rw [hN, maI]
      rw [rf_u3, if_neg (by omega), rf_u3, if_neg (by omega), rf_u3, if_neg (by omega), rf_u3, if_neg (by omega), rf_u3, if_neg (by omega), rf_u3, if_neg (by omega)]
    have nK : ∀ b i, ¬ (b = 8 ∨ (b = 100 ∧ ((29 ≤ i ∧ i ≤ 34) ∨ i = 36 ∨ i = 37))) → N b i = K b i := fun b i h => by rw [nk b i (by omega), kpI_k (by omega), thI_b (by omega)]
    have nR : ∀ b i, ¬ (b = 8 ∨ (b = 100 ∧ ((29 ≤ i ∧ i ≤ 34) ∨ i = 36 ∨ i = 37)) ∨ (b = 1 ∧ i = 40 + k) ∨ (b = 5 ∧ i = 4 * (40 + k) + n)) → N b i = remI I k b i := fun b i h => by rw [nK b i (by omega), kR b i (by omega)]
    have c5 : nn (I 1 (40 + k) 1) < 5 := ((jrOk_of hR).2.2.1 k k8).2
    obtain ⟨j1, j2⟩ := keep_N (N := N) (K := K) hR k8 mc (funext fun i => nR 3 i (by omega)) (by rw [nR 7 0 (by omega)]) (fun i h => nR 1 i (by omega)) (fun i h => nR 5 i (by omega)) (nR 100 6 (by omega)) (by rw [nk 8 0 (by omega)]) (by rw [nk 8 0 (by omega)]) (nk 100 36 (by omega)) (nk 100 37 (by omega))
    have e0 : N 8 0 0 = 0 := by rw [nk 8 0 (by omega), kpI_8 (by decide) (by decide), thI_0]
    have kk : ∀ i, 28 ≤ i → i < 35 → kpI (thI K 0) k 100 i = I 100 i := fun i h h' => by rw [kpI_o (by omega) (by omega), thI_b (by decide), mc 100 i (by omega)]
    have n29 : N 100 29 = uf (I 100 29) k (Int32.ofNat (n + 1)) := by
      rw [← kk 29 (by omega) (by omega), hN, ← nt_succ, ← en, ← kk 29 (by omega) (by omega)]
      funext f
      simp [maI, rf_u3, uf]
    have nf : ∀ f y, (f = 0 ∧ y = p) ∨ (f = 1 ∧ y = g) ∨ (f = 2 ∧ y = t) ∨ (f = 3 ∧ y = -1) ∨ (f = 4 ∧ y = 0) → N 100 (30 + f) = uf (I 100 (30 + f)) i0 y := by
      intro f y z
      rw [← kk (30 + f) (by omega) (by omega), hN]
      funext j
      unfold maI uf
      rcases z with ⟨rfl, rfl⟩ | ⟨rfl, rfl⟩ | ⟨rfl, rfl⟩ | ⟨rfl, rfl⟩ | ⟨rfl, rfl⟩ <;> simp [rf_u3]
    have eN : mN N k = n + 1 := by
      unfold mN
      rw [n29, uf, if_pos rfl]
      exact nn_nat (by omega)
    have yv : ∀ f, f < 5 → ∃ y, ((f = 0 ∧ y = p) ∨ (f = 1 ∧ y = g) ∨ (f = 2 ∧ y = t) ∨ (f = 3 ∧ y = -1) ∨ (f = 4 ∧ y = 0)) := by
      intro f hf
      have : f = 0 ∨ f = 1 ∨ f = 2 ∨ f = 3 ∨ f = 4 := by omega
      rcases this with rfl | rfl | rfl | rfl | rfl
      · exact ⟨p, Or.inl ⟨rfl, rfl⟩⟩
      · exact ⟨g, Or.inr (Or.inl ⟨rfl, rfl⟩)⟩
      · exact ⟨t, Or.inr (Or.inr (Or.inl ⟨rfl, rfl⟩))⟩
      · exact ⟨-1, Or.inr (Or.inr (Or.inr (Or.inl ⟨rfl, rfl⟩)))⟩
      · exact ⟨0, Or.inr (Or.inr (Or.inr (Or.inr ⟨rfl, rfl⟩)))⟩
    have ePo : ∀ f m, f < 5 → ¬ m = n → mP N k f m = mP I k f m := by
      intro f m hf z
      obtain ⟨y, hy⟩ := yv f hf
      show N 100 (30 + f) (4 * k + m) = I 100 (30 + f) (4 * k + m)
      rw [nf f y hy, uf, if_neg (by omega)]
    have ePn : ∀ f y, ((f = 0 ∧ y = p) ∨ (f = 1 ∧ y = g) ∨ (f = 2 ∧ y = t) ∨ (f = 3 ∧ y = -1) ∨ (f = 4 ∧ y = 0)) → mP N k f n = y := by
      intro f y hy
      show N 100 (30 + f) (4 * k + n) = y
      rw [nf f y hy, uf, if_pos hi0.symm]
    have q5 : ∀ f y, ((f = 0 ∧ y = p) ∨ (f = 1 ∧ y = g) ∨ (f = 2 ∧ y = t) ∨ (f = 3 ∧ y = -1) ∨ (f = 4 ∧ y = 0)) → N 5 (4 * (40 + k) + n) f = y := by
      intro f y hy
      rw [nK 5 _ (by omega), hK, apI, rem_q, cek, ← hn', rf_u3, if_neg (by omega), ro_self]
      rcases hy with ⟨rfl, rfl⟩ | ⟨rfl, rfl⟩ | ⟨rfl, rfl⟩ | ⟨rfl, rfl⟩ | ⟨rfl, rfl⟩ <;> simp [uf]
    have q1 : ∀ f, N 1 (40 + k) f = if f = 1 then Int32.ofNat (n + 1) else I 1 (40 + k) f := fun f => by
      rw [nK 1 (40 + k) (by omega), hK, apI, rf_u3, rem_q, ro_b (by decide), rem_q, cek, en, nt_succ]
      by_cases z : f = 1
      · rw [if_pos ⟨rfl, rfl, z⟩, if_pos z]
      · rw [if_neg (fun y => z y.2.2), if_neg z]
    obtain ⟨g1, g2, g3, g4⟩ := hR.1.2.2.2.2.1 k k8
    refine q _ _ ?_ (by funext i; rw [nR 200 i (by omega), rmm_o (by omega)]) e0 (fun _ => by rw [cek]; simp [rf_u3])
    refine edit_rel hR k8 a4 j1 j2 (fun b i h => by rw [nR b i (by omega), rmm_o (by omega)]) (fun d hd z => by rw [nR 1 (40 + d) (by omega), rem_q]) (fun d hd z m hm => by rw [nR 5 _ (by omega), rem_m c5]) (fun d hd z => by rw [nK 100 28 (by omega), mc 100 28 (by omega)]) (fun d hd z => by rw [n29, uf, if_neg z]) (fun i h h' d hd z m hm => ?_) ?_ ?_ ?_ ?_ ?_
    · have ei : i = 30 + (i - 30) := by omega
      obtain ⟨y, hy⟩ := yv (i - 30) (by omega)
      rw [ei, nf (i - 30) y hy, uf, if_neg (by omega)]
    · rw [q1, if_neg (by decide)]
    · rw [q1, if_neg (by decide), nK 100 28 (by omega), mc 100 28 (by omega)]; exact g2
    · rw [q1, if_pos rfl, n29, uf, if_pos rfl]
    · intro m hm f hf
      rw [eN] at hm
      by_cases z : m = n
      · subst z
        obtain ⟨y, hy⟩ := yv f hf
        rw [q5 f y hy, ePn f y hy]
      · rw [nR 5 _ (by omega), rem_m c5, ePo f m hf z]
        exact g4 m (by show m < nn (I 100 29 k); omega) f hf
    · obtain ⟨v1, v2, v3⟩ := hR.2.2.2.2.1 k k8
      have w0 : mP N k 0 n = p := ePn 0 p (by simp)
      have w1 : mP N k 1 n = g := ePn 1 g (by simp)
      have w2 : mP N k 2 n = t := ePn 2 t (by simp)
      have w3 : mP N k 3 n = -1 := ePn 3 (-1) (by simp)
      have nh : ∀ j, j < n → ¬ nn (mP I k 0 j) = nn p := by
        intro j hj z
        have hj' : j < mN I k := by show j < nn (I 100 29 k); omega
        refine a3.2.2 ⟨j, hj', ?_⟩
        rw [← nn_of (v3 j hj').1.1, z, nn_of a2.1]
      rw [nK 100 28 (by omega), mc 100 28 (by omega), n29, uf, if_pos rfl, eN]
      refine ⟨v1, nt_ix (n := 5) (by omega) (by decide), fun m hm => ?_⟩
      by_cases z : m = n
      · subst z
        rw [w0, w1, w2, w3]
        refine ⟨a2, top_ok a3.2.1, a3.1, fun y => absurd rfl y, fun j hj y => ?_⟩
        by_cases u : j = m
        · exact u
        · rw [ePo 0 j (by decide) u] at y
          exact absurd y (nh j (by omega))
      · have hm' : m < mN I k := by show m < nn (I 100 29 k); omega
        obtain ⟨x1, x2, x3, x4, x5⟩ := v3 m hm'
        rw [ePo 0 m (by decide) z, ePo 1 m (by decide) z, ePo 2 m (by decide) z, ePo 3 m (by decide) z]
        refine ⟨x1, x2, x3, x4, fun j hj y => ?_⟩
        by_cases u : j = n
        · rw [u, w0] at y
          exact absurd y.symm (nh m (by omega))
        · rw [ePo 0 j (by decide) u] at y
          exact x5 j (by show j < nn (I 100 29 k); omega) y
theorem af_eq {c m o a : Int32} {n : Nat} (hm : ok m n) (hn : n < 6) : afA c m o a ↔ afM m o a := by
  have h2 : nn m < n := hm.2
  have hi : m.toInt = nn m := n_t hm.1
  have z1 : (1 : Int32).toInt = 1 := rfl
  have : o ≤ m - 1 ↔ o < m := by
    rw [Int32.le_iff_toInt_le, Int32.lt_iff_toInt_lt, t_sub (by omega), z1]
    omega
  unfold afA afM
  rw [this]
theorem p_after {c m o a : Int32} (hR : Rel I I) : rf_C l 62 [dk, .inl c, .inl m, .inl o, .inl a] (sS L I J) (tpN l L I 63 [mo, .inl c, .inl m, .inl o, .inl a]) := by
  have he : ok (I 8 0 31) 41 := hR.2.2.2.2.2.2.2.2.1
  have hn : ∀ c, c < 8 → ok (I 100 29 c) 5 := fun c hc => (hR.2.2.2.2.1 c hc).2.1
  have be : ok c 8 → (busy I (40 + nn c) ↔ bsy (I 100 27 (nn c))) := fun a => busy_eq hR.1.2.2.2.2.1 a.2
  have ce : ok c 8 → I 1 (40 + nn c) 1 = I 100 29 (nn c) := fun a => (hR.1.2.2.2.2.1 (nn c) a.2).2.2.1
  have c6 : ok c 8 → nn (I 100 29 (nn c)) < 6 := fun a => by
    have : nn (I 100 29 (nn c)) < 5 := (hn (nn c) a.2).2
    omega
  refine e_after (c_after (jrOk_of hR) (fun a1 => ?_) (fun a1 a2 a3 => ?_) (fun a1 a2 a3 a4 => ?_) (fun a1 a2 a3 a4 => ?_))
  · have a1' : ok c 8 → ¬ ok m (nn (I 100 29 (nn c))) := fun x y => a1 ⟨x, by rw [ce x]; exact y⟩
    exact ⟨1, I, J, rfl, rfl, rfl, fun Q' q => d_after he hn (fun _ => q _ (Rel_th hR) th_200 thI_0) (fun x y _ => absurd y (a1' x)) (fun x y _ _ => absurd y (a1' x)) (fun x y _ _ => absurd y (a1' x))⟩
  · rw [ce a1] at a2
    rw [af_eq a2 (c6 a1)] at a3
    exact ⟨2, I, J, rfl, rfl, rfl, fun Q' q => d_after he hn (fun x => absurd ⟨a1, a2⟩ x) (fun _ _ _ => q _ (Rel_th hR) th_200 thI_0) (fun _ _ x _ => absurd x a3) (fun _ _ x _ => absurd x a3)⟩
  · rw [ce a1] at a2
    rw [af_eq a2 (c6 a1)] at a3
    rw [be a1] at a4
    exact ⟨3, I, J, rfl, rfl, rfl, fun Q' q => d_after he hn (fun x => absurd ⟨a1, a2⟩ x) (fun _ _ x => absurd a3 x) (fun _ _ _ _ => q _ (Rel_th hR) th_200 thI_0) (fun _ _ _ x => absurd a4 x)⟩
  · rw [ce a1] at a2
    rw [af_eq a2 (c6 a1)] at a3
    rw [be a1] at a4
    obtain ⟨k, hk⟩ : ∃ k, k = nn c := ⟨_, rfl⟩
    have k8 : k < 8 := by rw [hk]; exact a1.2
    rw [← hk] at a2 a4 ⊢
    obtain ⟨n, hn'⟩ : ∃ n, n = nn m := ⟨_, rfl⟩
    have nN : n < mN I k := by rw [hn']; exact a2.2
    have N5 : mN I k < 5 := (hn k k8).2
    have ew : afV o a = afW o a := by
      unfold afV afW
      rcases a3 with z | z
      · rw [if_pos z, if_neg (by rw [z]; decide)]
      · rw [if_neg (fun y => by rw [y] at z; exact absurd z.1.1 (by decide)), if_pos z.1.1]
    obtain ⟨K, hK⟩ : ∃ K, K = rf_u3 (rf_u3 (remI I k) 5 (4 * (40 + k) + n) 3 o) 5 (4 * (40 + k) + n) 4 (afW o a) := ⟨_, rfl⟩
    rw [ew, ← hn', ← hK]
    have kR : ∀ b i, ¬ (b = 5 ∧ i = 4 * (40 + k) + n) → K b i = remI I k b i := by
      intro b i h
      funext f
      rw [hK, rf_u3, if_neg (by omega), rf_u3, if_neg (by omega)]
    have mc : ∀ b i, ((b = 100 ∧ 10 ≤ i) ∨ (b = 101 ∧ 1 ≤ i) ∨ b = 8) → K b i = I b i := fun b i h => by rw [kR b i (by omega), rmm_o (by omega)]
    have vK : VC K := VC_fr hR.2.2.2.2.1 (fun i h h' => mc 100 i (by omega))
    have hm1 : ok m (nn (K 100 29 (nn c))) := by rw [← hk, mc 100 29 (by omega)]; exact a2
    have hb1 : ¬ bsy (K 100 27 (nn c)) := by rw [← hk, mc 100 27 (by omega)]; exact a4
    refine ⟨0, K, J, rfl, rfl, by funext i; rw [kR 200 i (by omega), rmm_o (by omega)], fun Q' q => d_after (by rw [mc 8 0 (by omega)]; exact he) (fun c hc => (vK c hc).2.1) (fun x => absurd ⟨a1, hm1⟩ x) (fun _ _ x => absurd a3 x) (fun _ _ _ x => absurd x hb1) (fun _ _ _ _ => ?_)⟩
    rw [← hk, ← hn']
    obtain ⟨N, hN⟩ : ∃ N, N = rf_u3 (rf_u3 (kpI (thI K 0) k) 100 33 (4 * k + n) o) 100 34 (4 * k + n) (afW o a) := ⟨_, rfl⟩
    rw [← hN]
    have nk : ∀ b i, ¬ (b = 100 ∧ (i = 33 ∨ i = 34)) → N b i = kpI (thI K 0) k b i := fun b i h => by
      funext f
      rw [hN, rf_u3, if_neg (by omega), rf_u3, if_neg (by omega)]
    have nK : ∀ b i, ¬ (b = 8 ∨ (b = 100 ∧ (i = 33 ∨ i = 34 ∨ i = 36 ∨ i = 37))) → N b i = K b i := fun b i h => by rw [nk b i (by omega), kpI_k (by omega), thI_b (by omega)]
    have nR : ∀ b i, ¬ (b = 8 ∨ (b = 100 ∧ (i = 33 ∨ i = 34 ∨ i = 36 ∨ i = 37)) ∨ (b = 5 ∧ i = 4 * (40 + k) + n)) → N b i = remI I k b i := fun b i h => by rw [nK b i (by omega), kR b i (by omega)]
    have c5 : nn (I 1 (40 + k) 1) < 5 := ((jrOk_of hR).2.2.1 k k8).2
    obtain ⟨j1, j2⟩ := keep_N (N := N) (K := K) hR k8 mc (funext fun i => nR 3 i (by omega)) (by rw [nR 7 0 (by omega)]) (fun i h => nR 1 i (by omega)) (fun i h => nR 5 i (by omega)) (nR 100 6 (by omega)) (by rw [nk 8 0 (by omega)]) (by rw [nk 8 0 (by omega)]) (nk 100 36 (by omega)) (nk 100 37 (by omega))
    have e0 : N 8 0 0 = 0 := by rw [nk 8 0 (by omega), kpI_8 (by decide) (by decide), thI_0]
    have kk : ∀ i, 28 ≤ i → i < 35 → kpI (thI K 0) k 100 i = I 100 i := fun i h h' => by rw [kpI_o (by omega) (by omega), thI_b (by decide), mc 100 i (by omega)]
    have m30 : ∀ i, 28 ≤ i → i < 33 → N 100 i = I 100 i := fun i h h' => by rw [nk 100 i (by omega), kk i h (by omega)]
    have n33 : N 100 33 = uf (I 100 33) (4 * k + n) o := by
      rw [← kk 33 (by omega) (by omega), hN]
      funext j
      simp [rf_u3, uf]
    have n34 : N 100 34 = uf (I 100 34) (4 * k + n) (afW o a) := by
      rw [← kk 34 (by omega) (by omega), hN]
      funext j
      simp [rf_u3, uf]
    have eN : mN N k = mN I k := mN_fr (m30 29 (by omega) (by omega))
    have f3 : ∀ f, f < 5 → f < 3 ∨ f = 3 ∨ f = 4 := fun f h => by omega
    have ePo : ∀ f x, f < 5 → (f < 3 ∨ ¬ x = n) → mP N k f x = mP I k f x := by
      intro f x hf z
      show N 100 (30 + f) (4 * k + x) = I 100 (30 + f) (4 * k + x)
      rcases f3 f hf with y | y | y
      · rw [m30 (30 + f) (by omega) (by omega)]
      · subst y
        rw [n33, uf, if_neg (by omega)]
      · subst y
        rw [n34, uf, if_neg (by omega)]
    have w3 : mP N k 3 n = o := by
      show N 100 33 (4 * k + n) = o
      rw [n33, uf, if_pos rfl]
    have w4 : mP N k 4 n = afW o a := by
      show N 100 34 (4 * k + n) = _
      rw [n34, uf, if_pos rfl]
    have q5 : ∀ f, N 5 (4 * (40 + k) + n) f = if f = 4 then afW o a else if f = 3 then o else I 5 (4 * (40 + k) + n) f := by
      intro f
      rw [nK 5 _ (by omega), hK, rf_u3, ← rem_m (c := k) (d := k) (m := n) c5]
      by_cases z : f = 4
      · rw [if_pos ⟨rfl, rfl, z⟩, if_pos z]
      · rw [if_neg (fun y => z y.2.2), if_neg z, rf_u3]
        by_cases y : f = 3
        · rw [if_pos ⟨rfl, rfl, y⟩, if_pos y]
        · rw [if_neg (fun u => y u.2.2), if_neg y]
    obtain ⟨g1, g2, g3, g4⟩ := hR.1.2.2.2.2.1 k k8
    have q1 : N 1 (40 + k) = I 1 (40 + k) := by rw [nR 1 (40 + k) (by omega), rem_q]
    refine q _ ?_ (by funext i; rw [nR 200 i (by omega), rmm_o (by omega)]) e0
    refine edit_rel hR k8 a4 j1 j2 (fun b i h => by rw [nR b i (by omega), rmm_o (by omega)]) (fun d hd z => by rw [nR 1 (40 + d) (by omega), rem_q]) (fun d hd z x hx => by rw [nR 5 _ (by omega), rem_m c5]) (fun d hd z => by rw [m30 28 (by omega) (by omega)]) (fun d hd z => by rw [m30 29 (by omega) (by omega)]) (fun i h h' d hd z x hx => ?_) ?_ ?_ ?_ ?_ ?_
    · have : i < 33 ∨ i = 33 ∨ i = 34 := by omega
      rcases this with y | y | y
      · rw [m30 i (by omega) y]
      · rw [y, n33, uf, if_neg (by omega)]
      · rw [y, n34, uf, if_neg (by omega)]
    · rw [q1]
    · rw [q1, m30 28 (by omega) (by omega)]; exact g2
    · rw [q1, m30 29 (by omega) (by omega)]; exact g3
    · intro x hx f hf
      rw [eN] at hx
      by_cases z : x = n
      · subst z
        rw [q5]
        by_cases y : f = 4
        · rw [if_pos y, y, w4]
        · rw [if_neg y]
          by_cases u : f = 3
          · rw [if_pos u, u, w3]
          · rw [if_neg u, ePo f x hf (by omega)]
            exact g4 x hx f hf
      · rw [nR 5 _ (by omega), rem_m c5, ePo f x hf (Or.inr z)]
        exact g4 x hx f hf
    · obtain ⟨v1, v2, v3⟩ := hR.2.2.2.2.1 k k8
      rw [m30 28 (by omega) (by omega), m30 29 (by omega) (by omega), eN]
      refine ⟨v1, v2, fun x hx => ?_⟩
      obtain ⟨x1, x2, x3, x4, x5⟩ := v3 x hx
      rw [ePo 0 x (by decide) (by omega), ePo 1 x (by decide) (by omega), ePo 2 x (by decide) (by omega)]
      refine ⟨x1, x2, x3, ?_, fun j hj y => x5 j hj (by rw [← ePo 0 j (by decide) (by omega)]; exact y)⟩
      by_cases z : x = n
      · subst z
        rw [w3]
        intro y
        have z2 := a3.elim (fun u => absurd u y) id
        refine ⟨z2.1.1, ?_⟩
        have lt := z2.1.2
        have oi : o.toInt = nn o := n_t z2.1.1
        have mi : m.toInt = nn m := n_t a2.1
        rw [Int32.lt_iff_toInt_lt] at lt
        show nn o < x
        omega
      · rw [ePo 3 x (by decide) (Or.inr z)]
        exact x4
end PK
