/-! the calls side by side: go, halt -/
section PD
variable {l : Launch} {L : Nat} {I M I' M' : Nat → Nat → Nat → Int32} {J : Nat → Nat → Nat → Int64}
theorem goF_cg {t t' x x' : Nat → Int32} {s : Int32} (ht : ∀ c, c < 8 → t c = t' c) (hx : ∀ c, c < 8 → x c = x' c) : ∀ n, n ≤ 8 → (∀ c, c < 8 → (goF t s x n).1 c = (goF t' s x' n).1 c) ∧ (goF t s x n).2 = (goF t' s x' n).2
  | 0, _ => ⟨hx, rfl⟩
  | n + 1, h => by
    obtain ⟨i1, i2⟩ := goF_cg (s := s) ht hx n (by omega)
    rw [goF, goF, ht n (by omega), i1 n (by omega), i2]
    by_cases q : t' n = s ∧ ((goF t' s x' n).1 n = 1 ∨ (goF t' s x' n).1 n = 3)
    · rw [cif_t q, cif_t q]
      refine ⟨fun c hc => ?_, rfl⟩
      show uf _ _ _ c = uf _ _ _ c
      unfold uf
      split
      · rfl
      · exact i1 c hc
    · rw [cif_f q, cif_f q]
      exact ⟨i1, i2⟩
theorem goF_b {t x : Nat → Int32} {s : Int32} {c : Nat} : ∀ n, bsy ((goF t s x n).1 c) ↔ bsy (x c)
  | 0 => Iff.rfl
  | n + 1 => by
    have ih := goF_b (t := t) (x := x) (s := s) (c := c) n
    rw [goF]
    by_cases q : t n = s ∧ ((goF t s x n).1 n = 1 ∨ (goF t s x n).1 n = 3)
    · rw [cif_t q, ← ih]
      show bsy (uf _ _ _ c) ↔ _
      unfold uf
      by_cases z : c = n
      · rw [if_pos z, z]
        refine ⟨fun _ => q.2.elim Or.inl fun w => Or.inr (Or.inr w), fun _ => Or.inr (Or.inl rfl)⟩
      · rw [if_neg z]
    · rw [cif_f q]
      exact ih
theorem stX_eq (r : RC I M) : ∀ c, c < 8 → stX I c = M 100 27 c := fun c hc => (r c hc).1
theorem kS_eq (r : RC I M) : ∀ c, c < 8 → kS I c = M 100 28 c := fun c hc => (r c hc).2.1
theorem kN_eq (r : RC I M) : ∀ c, c < 8 → kN I c = mN M c := fun c hc => by
  show nn (I 1 (40 + c) 1) = nn (M 100 29 c)
  rw [(r c hc).2.2.1]
theorem kP_eq (r : RC I M) : ∀ c, c < 8 → ∀ f, f < 5 → ∀ m, m < mN M c → kP I c f m = mP M c f m := fun c hc f hf m hm => (r c hc).2.2.2 m hm f hf
theorem z102 : 0 ≤ (0 : Int32) ∧ (0 : Int32).toNatClampNeg < (sS L I J).2.1 102 0 := ⟨by decide, (by decide : (0 : Int32).toNatClampNeg < 1)⟩
theorem bsy_5 : ¬ bsy 5 := by
  intro h
  rcases h with h | h | h <;> exact absurd h (by decide)
theorem p_go {s : Int32} (hR : Rel I I) : rf_C l 95 [dk, .inl s, ol] (sS L I J) (tpV l L I 96 [mo, .inl s]) := by
  have hs : ok s 3 → I 101 0 (nn s) = I 101 4 (nn s) := fun a => hR.1.2.2.2.2.2.2.1 (nn s) a.2
  refine e_go (c_go (fun a1 => ?_) (fun a1 a2 => ?_) (fun a1 a2 r hr => ?_))
  · exact ⟨1, I, J, rfl, rfl, rfl, fun Q' q => d_go (fun _ => q _ _ (Rel_th hR) th_200 thI_0 (fun z => absurd z (by decide))) (fun a _ => absurd a a1) (fun a _ _ _ => absurd a a1)⟩
  · rw [hs a1] at a2
    exact ⟨2, I, J, rfl, rfl, rfl, fun Q' q => d_go (fun a => absurd a1 a) (fun _ _ => q _ _ (Rel_th hR) th_200 thI_0 (fun z => absurd z (by decide))) (fun _ a => absurd a2 a)⟩
  · rw [hs a1] at a2
    refine ⟨z102, 0, stI I r.1, _, rfl, rfl, stI_b (by decide), fun Q' q => d_go (fun a => absurd a1 a) (fun _ a => absurd a (by rw [stI_b (by decide)]; exact a2)) (fun _ _ r' hr' => ?_)⟩
    rw [stI_b (by decide)] at hr'
    obtain ⟨g1, g2⟩ := goF_cg (s := s) (kS_eq hR.1.2.2.2.2.1) (stX_eq hR.1.2.2.2.2.1) 8 (Nat.le_refl _)
    rw [← hr, ← hr'] at g1 g2
    have e : ∀ b i, ¬ ((b = 1 ∧ 40 ≤ i) ∨ (b = 100 ∧ i = 27) ∨ b = 8) → ro (thI (stI I r.1) 0) 100 27 r'.1 b i = I b i := by
      intro b i h
      rw [ro_ne (by omega), thI_b (by omega)]
      funext f
      rw [stI, if_neg (by omega)]
    have e31 : ro (thI (stI I r.1) 0) 100 27 r'.1 8 0 31 = I 8 0 31 := by rw [ro_b (by decide), thI_8 (by decide), stI_b (by decide)]
    have e32 : ro (thI (stI I r.1) 0) 100 27 r'.1 8 0 32 = I 8 0 32 := by rw [ro_b (by decide), thI_8 (by decide), stI_b (by decide)]
    have e27 : ro (thI (stI I r.1) 0) 100 27 r'.1 100 27 = r'.1 := ro_self
    have eb : ∀ c, bsy (ro (thI (stI I r.1) 0) 100 27 r'.1 100 27 c) ↔ bsy (I 100 27 c) := fun c => by
      rw [e27, hr']
      exact goF_b 8
    refine q _ _ ?_ (funext fun i => e 200 i (by omega)) ro_b8 (fun _ => by rw [← g2]; simp [rf_u3])
    refine ⟨⟨RD_fr hR.1.1 (funext fun i => e 2 i (by omega)) (fun k _ _ => e 100 k (by omega)) (e 101 1 (by omega)) (e 101 2 (by omega)), RB_fr hR.1.2.1 (fun p _ => e 0 (1 + p) (by omega)) (fun k _ _ => e 100 k (by omega)), RP_fr hR.1.2.2.1 (funext fun i => e 6 i (by omega)) (e 100 25 (by omega)) (e 100 26 (by omega)) (e 101 3 (by omega)), RM_fr hR.1.2.2.2.1 (e 100 0 (by omega)) (e 100 1 (by omega)) (e 100 23 (by omega)) (e 100 24 (by omega)), ?_, ?_, RH_fr hR.1.2.2.2.2.2.2.1 (e 101 0 (by omega)) (e 101 4 (by omega)), RJ_fr hR.1.2.2.2.2.2.2.2 (funext fun i => e 3 i (by omega)) (congrFun (e 7 0 (by omega)) 11) (fun k _ => e 1 k (by omega)) (fun k _ => e 5 k (by omega)) (e 100 6 (by omega)) hR.2.2.2.2.2.2.2 e31 e32 (e 100 36 (by omega)) (e 100 37 (by omega))⟩, VD_fr hR.2.1 (e 100 10 (by omega)) (e 100 11 (by omega)) (e 100 12 (by omega)) (e 100 14 (by omega)) (e 100 16 (by omega)) (e 101 1 (by omega)) (e 101 3 (by omega)), VP_fr hR.2.2.1 (e 100 23 (by omega)) (e 100 24 (by omega)) (e 100 25 (by omega)) (e 101 3 (by omega)) (e 100 10 (by omega)), VB_fr hR.2.2.2.1 (fun k _ _ => e 100 k (by omega)), VC_fr hR.2.2.2.2.1 (fun k _ _ => e 100 k (by omega)), ?_, ?_, VJ_fr hR.2.2.2.2.2.2.2 (funext fun i => e 3 i (by omega)) (fun k _ => e 1 k (by omega)) (e 100 6 (by omega)) e31 (e 100 36 (by omega)) (e 100 37 (by omega))⟩
    · intro c hc
      obtain ⟨h1, h2, h3, h4⟩ := hR.1.2.2.2.2.1 c hc
      have c1 : ∀ f, ¬ f = 3 → ro (thI (stI I r.1) 0) 100 27 r'.1 1 (40 + c) f = I 1 (40 + c) f := fun f hf => by rw [ro_b (by decide), thI_b (by decide), stI_f hf]
      have c3 : ro (thI (stI I r.1) 0) 100 27 r'.1 1 (40 + c) 3 = r.1 c := by rw [ro_b (by decide), thI_b (by decide), stI_x hc]
      refine ⟨by rw [c3, e27]; exact g1 c hc, by rw [c1 2 (by decide), e 100 28 (by omega)]; exact h2, by rw [c1 1 (by decide), e 100 29 (by omega)]; exact h3, fun m hm f hf => ?_⟩
      rw [mN_fr (e 100 29 (by omega))] at hm
      rw [e 5 _ (by omega), mP_fr (fun k _ _ => e 100 k (by omega)) hf]
      exact h4 m hm f hf
    · exact RG_fr hR.1.2.2.2.2.2.1 (e 100 2 (by omega)) (fun k _ _ => e 100 k (by omega)) (fun c _ => (eb c).mp)
    · exact VA_fr hR.2.2.2.2.2.1 (fun k _ _ => e 100 k (by omega)) (e 100 23 (by omega)) (e 100 24 (by omega)) (e 100 25 (by omega)) (e 101 3 (by omega)) (fun c _ => (eb c).mp)
    · exact VS_fr hR.2.2.2.2.2.2.1 (fun k _ _ => e 100 k (by omega)) (e 100 24 (by omega)) (fun c _ => (eb c).mpr)
/-- some cues are stopped, their pieces stand -/
def SP (P : Nat → Nat → Int32) (n : Nat → Nat) (x v x' v' : Nat → Int32) : Prop := (∀ d, d < 8 → x' d = x d ∨ (x' d = 5 ∧ bsy (x d) ∧ ∀ j, j < n d → v' (nn (P d j)) = 0)) ∧ ∀ p, v' p = v p ∨ (v' p = 0 ∧ ∃ d, d < 8 ∧ bsy (x d) ∧ x' d = 5 ∧ ∃ j, j < n d ∧ nn (P d j) = p)
theorem SP_refl {P : Nat → Nat → Int32} {n : Nat → Nat} {x v : Nat → Int32} : SP P n x v x v := ⟨fun _ _ => Or.inl rfl, fun _ => Or.inl rfl⟩
theorem SP_trans {P : Nat → Nat → Int32} {n : Nat → Nat} {x v x1 v1 x2 v2 : Nat → Int32} (h : SP P n x v x1 v1) (k : SP P n x1 v1 x2 v2) : SP P n x v x2 v2 := by
  have b1 : ∀ d, d < 8 → bsy (x1 d) → x1 d = x d := fun d hd b => (h.1 d hd).elim id fun q => absurd (q.1 ▸ b) bsy_5
  have z2 : ∀ p, v1 p = 0 → v2 p = 0 := fun p q => (k.2 p).elim (fun w => w.trans q) fun w => w.1
  refine ⟨fun d hd => ?_, fun p => ?_⟩
  · rcases k.1 d hd with q | ⟨q1, q2, q3⟩
    · rcases h.1 d hd with w | ⟨w1, w2, w3⟩
      · exact Or.inl (q.trans w)
      · exact Or.inr ⟨q.trans w1, w2, fun j hj => z2 _ (w3 j hj)⟩
    · exact Or.inr ⟨q1, b1 d hd q2 ▸ q2, q3⟩
  · rcases k.2 p with q | ⟨q1, d, hd, q2, q3, q4⟩
    · rcases h.2 p with w | ⟨w1, d, hd, w2, w3, w4⟩
      · exact Or.inl (q.trans w)
      · refine Or.inr ⟨q.trans w1, d, hd, w2, ?_, w4⟩
        exact (k.1 d hd).elim (fun z => z.trans w3) fun z => z.1
    · exact Or.inr ⟨q1, d, hd, b1 d hd q2 ▸ q2, q3, q4⟩
theorem stR_at {P v : Nat → Int32} : ∀ n p, (stR P v n p = v p ∧ ∀ j, j < n → ¬ nn (P j) = p) ∨ (stR P v n p = 0 ∧ ∃ j, j < n ∧ nn (P j) = p)
  | 0, p => Or.inl ⟨rfl, fun _ h => absurd h (by omega)⟩
  | n + 1, p => by
    rw [stR]
    unfold uf
    by_cases q : p = nn (P n)
    · rw [if_pos q]
      exact Or.inr ⟨rfl, n, by omega, q.symm⟩
    · rw [if_neg q]
      rcases stR_at (P := P) (v := v) n p with ⟨h1, h2⟩ | ⟨h1, j, h2, h3⟩
      · refine Or.inl ⟨h1, fun j hj => ?_⟩
        by_cases e : j = n
        · rw [e]; exact fun w => q w.symm
        · exact h2 j (by omega)
      · exact Or.inr ⟨h1, j, by omega, h3⟩
theorem SP_one {P : Nat → Nat → Int32} {n : Nat → Nat} {x v : Nat → Int32} {c : Nat} (hc : c < 8) (hb : bsy (x c)) : SP P n x v (uf x c 5) (stR (P c) v (n c)) := by
  refine ⟨fun d hd => ?_, fun p => ?_⟩
  · unfold uf
    by_cases q : d = c
    · rw [if_pos q]
      refine Or.inr ⟨rfl, q ▸ hb, fun j hj => ?_⟩
      subst q
      rcases stR_at (P := P d) (v := v) (n d) (nn (P d j)) with ⟨_, h2⟩ | ⟨h1, _⟩
      · exact absurd rfl (h2 j hj)
      · exact h1
    · rw [if_neg q]
      exact Or.inl rfl
  · rcases stR_at (P := P c) (v := v) (n c) p with ⟨h1, _⟩ | ⟨h1, j, h2, h3⟩
    · exact Or.inl h1
    · exact Or.inr ⟨h1, c, hc, hb, by simp [uf], j, h2, h3⟩
theorem stR_cg {P P' v : Nat → Int32} : ∀ n, (∀ j, j < n → P j = P' j) → stR P v n = stR P' v n
  | 0, _ => rfl
  | n + 1, h => by rw [stR, stR, stR_cg n (fun j hj => h j (by omega)), h n (by omega)]
theorem hlF_cg {t t' x x' v : Nat → Int32} {s : Int32} {P P' : Nat → Nat → Int32} {n n' : Nat → Nat} (ht : ∀ c, c < 8 → t c = t' c) (hx : ∀ c, c < 8 → x c = x' c) (hn : ∀ c, c < 8 → n c = n' c) (hP : ∀ c, c < 8 → ∀ j, j < n' c → P c j = P' c j) : ∀ k, k ≤ 8 → (∀ c, c < 8 → (hlF t s P n x v k).1.1 c = (hlF t' s P' n' x' v k).1.1 c) ∧ (hlF t s P n x v k).1.2 = (hlF t' s P' n' x' v k).1.2 ∧ (hlF t s P n x v k).2 = (hlF t' s P' n' x' v k).2
  | 0, _ => ⟨hx, rfl, rfl⟩
  | k + 1, h => by
    obtain ⟨i1, i2, i3⟩ := hlF_cg (s := s) (v := v) ht hx hn hP k (by omega)
    rw [hlF, hlF, ht k (by omega), i1 k (by omega), i2, i3, hn k (by omega), stR_cg (n' k) (hP k (by omega))]
    by_cases q : t' k = s ∧ bsy ((hlF t' s P' n' x' v k).1.1 k)
    · rw [cif_t q, cif_t q]
      refine ⟨fun c hc => ?_, rfl, rfl⟩
      show uf _ _ _ c = uf _ _ _ c
      unfold uf
      split
      · rfl
      · exact i1 c hc
    · rw [cif_f q, cif_f q]
      exact ⟨i1, i2, i3⟩
theorem hlF_SP {t x v : Nat → Int32} {s : Int32} {P : Nat → Nat → Int32} {n : Nat → Nat} : ∀ k, k ≤ 8 → SP P n x v (hlF t s P n x v k).1.1 (hlF t s P n x v k).1.2
  | 0, _ => SP_refl
  | k + 1, h => by
    have ih := hlF_SP (t := t) (x := x) (v := v) (s := s) (P := P) (n := n) k (by omega)
    rw [hlF]
    by_cases q : t k = s ∧ bsy ((hlF t s P n x v k).1.1 k)
    · rw [cif_t q]
      exact SP_trans ih (SP_one (by omega) q.2)
    · rw [cif_f q]
      exact ih
/-- what stands always, stands behind it -/
theorem SP_VA (h : VA M) (hs : SP (mQ M) (mN M) (M 100 27) (M 100 24) (M' 100 27) (M' 100 24)) (e : ∀ k, 29 ≤ k → k < 36 → M' 100 k = M 100 k) (e23 : M' 100 23 = M 100 23) (e25 : ∀ c, c < 8 → bsy (M' 100 27 c) → ∀ m, m < mN M c → M' 100 25 (nn (mP M c 0 m)) = 0) (e3 : M' 101 3 = M 101 3) : VA M' := by
  intro c hc hb m hm
  have eP : ∀ c f m, f < 5 → mP M' c f m = mP M c f m := fun c f m hf => mP_fr (fun k a b => e k (by omega) (by omega)) hf
  have eN : ∀ c, mN M' c = mN M c := fun c => mN_fr (e 29 (by omega) (by omega))
  have ex : ∀ d, d < 8 → bsy (M' 100 27 d) → M' 100 27 d = M 100 27 d := fun d hd b => (hs.1 d hd).elim id fun q => absurd (q.1 ▸ b) bsy_5
  rw [eN] at hm
  have hb' : bsy (M 100 27 c) := ex c hc hb ▸ hb
  obtain ⟨h1, h2, h3, h4⟩ := h c hc hb' m hm
  have eB : mB M' c m = mB M c m := by
    unfold mB
    rw [e 35 (by omega) (by omega)]
  have ev : M' 100 24 (nn (mP M c 0 m)) = M 100 24 (nn (mP M c 0 m)) := by
    rcases hs.2 (nn (mP M c 0 m)) with q | ⟨_, d, hd, q2, q3, j, hj, q4⟩
    · exact q
    · have := h4 d hd q2 j hj q4
      subst this
      rw [q3] at hb
      exact absurd hb bsy_5
  rw [eB, eP c 0 m (by decide), eP c 1 m (by decide), e23, e3, ev]
  refine ⟨h1, e25 c hc hb m hm, h3, fun d hd hbd j hj q => ?_⟩
  rw [eN] at hj
  rw [eP d 0 j (by decide)] at q
  exact h4 d hd (ex d hd hbd ▸ hbd) j hj q
theorem SP_VS (h : VS M) (hs : SP (mQ M) (mN M) (M 100 27) (M 100 24) (M' 100 27) (M' 100 24)) (e : ∀ k, 29 ≤ k → k < 35 → M' 100 k = M 100 k) : VS M' := by
  intro p hp q
  have z : M 100 24 p = 0 → M' 100 24 p = 0 := fun w => (hs.2 p).elim (fun y => y.trans w) fun y => y.1
  by_cases a : ∀ c, c < 8 → bsy (M 100 27 c) → ∀ m, m < mN M c → ¬ nn (mP M c 0 m) = p
  · exact z (h p hp a)
  · have : ∃ c, c < 8 ∧ bsy (M 100 27 c) ∧ ∃ m, m < mN M c ∧ nn (mP M c 0 m) = p := Classical.byContradiction fun w => a fun c hc hb m hm y => w ⟨c, hc, hb, m, hm, y⟩
    obtain ⟨c, hc, hb, m, hm, ep⟩ := this
    rcases hs.1 c hc with w | ⟨_, _, w3⟩
    · refine absurd ep ?_
      have := q c hc (by rw [w]; exact hb) m (by rw [mN_fr (e 29 (by omega) (by omega))]; exact hm)
      rw [mP_fr (fun k a b => e k (by omega) (by omega)) (by decide)] at this
      exact this
    · rw [← ep]
      exact w3 m hm
end PD
