/-! a tick: the pieces are watched, class and model -/
section PP
variable {l : Launch} {L : Nat} {I M I' M' N K : Nat → Nat → Nat → Int32} {J : Nat → Nat → Nat → Int64}
theorem fnd_cg {B B' : Nat → Prop} : ∀ n, (∀ c, c < n → (B c ↔ B' c)) → fnd B n = fnd B' n
  | 0, _ => rfl
  | n + 1, h => by
    have ih := fnd_cg n (fun c hc => h c (by omega))
    rw [fnd, fnd, ih]
    cases fnd B' n with
    | some c => rfl
    | none => exact cif_cg (h n (by omega)) rfl rfl
theorem wpR_cg {g g' rs rs' : Nat → Int32} {hm hm' : Nat → Nat → Prop} {P P' : Nat → Nat → Int32} {n n' : Nat → Nat} {s s' : (Nat → Int32) × (Nat → Int32) × (Nat → Int32)} (hg : ∀ p, p < 6 → g p = g' p) (hr : ∀ p, p < 6 → ¬ g' p = 0 → rs p = rs' p) (hh : ∀ p, p < 6 → ∀ c, c < 8 → (hm p c ↔ hm' p c)) (hn : ∀ c, c < 8 → n c = n' c) (hP : ∀ c, c < 8 → ∀ j, j < n' c → P c j = P' c j) (h1 : ∀ p, p < 6 → s.1 p = s'.1 p) (h2 : ∀ c, c < 8 → s.2.1 c = s'.2.1 c) (h3 : s.2.2 = s'.2.2) : ∀ p, p ≤ 6 → (∀ q, q < 6 → (wpR g rs hm P n s p).1 q = (wpR g' rs' hm' P' n' s' p).1 q) ∧ (∀ c, c < 8 → (wpR g rs hm P n s p).2.1 c = (wpR g' rs' hm' P' n' s' p).2.1 c) ∧ (wpR g rs hm P n s p).2.2 = (wpR g' rs' hm' P' n' s' p).2.2
  | 0, _ => ⟨h1, h2, h3⟩
  | p + 1, hp => by
    obtain ⟨i1, i2, i3⟩ := wpR_cg hg hr hh hn hP h1 h2 h3 p (by omega)
    rw [wpR, wpR, hg p (by omega), i1 p (by omega)]
    by_cases q : ¬ g' p = 0 ∧ (wpR g' rs' hm' P' n' s' p).1 p = 0
    · rw [cif_t q, cif_t q, hr p (by omega) q.1]
      obtain ⟨A, hA⟩ : ∃ A, A = wpR g rs hm P n s p := ⟨_, rfl⟩
      obtain ⟨B, hB⟩ : ∃ B, B = wpR g' rs' hm' P' n' s' p := ⟨_, rfl⟩
      rw [← hA, ← hB] at i1 i2 i3 ⊢
      refine ⟨fun t ht => ?_, ?_⟩
      · show uf _ _ _ t = uf _ _ _ t
        unfold uf
        split
        · rfl
        · exact i1 t ht
      · show (∀ c, c < 8 → (wp2 (rs' p) (hm p) P n A).1 c = (wp2 (rs' p) (hm' p) P' n' B).1 c) ∧ (wp2 (rs' p) (hm p) P n A).2 = (wp2 (rs' p) (hm' p) P' n' B).2
        unfold wp2
        by_cases z : rs' p = 0
        · rw [cif_t z, cif_t z]
          exact ⟨i2, i3⟩
        · rw [cif_f z, cif_f z]
          have ef : fnd (fun c => bsy (A.2.1 c) ∧ hm p c) 8 = fnd (fun c => bsy (B.2.1 c) ∧ hm' p c) 8 := fnd_cg 8 fun c hc => by
            show bsy (A.2.1 c) ∧ hm p c ↔ bsy (B.2.1 c) ∧ hm' p c
            rw [i2 c hc, hh p (by omega) c hc]
          rw [ef]
          rcases fnd_inv (B := fun c => bsy (B.2.1 c) ∧ hm' p c) (n := 8) with ⟨w, _⟩ | ⟨c, hc, _, _, w⟩
          · rw [w]
            exact ⟨i2, i3⟩
          · rw [w]
            refine ⟨fun d hd => ?_, ?_⟩
            · show uf _ _ _ d = uf _ _ _ d
              unfold uf
              split
              · rfl
              · exact i2 d hd
            · show stR _ _ _ = stR _ _ _
              rw [i3, hn c hc, stR_cg (n' c) (hP c hc)]
    · rw [cif_f q, cif_f q]
      exact ⟨i1, i2, i3⟩
theorem wpR_inv {g rs : Nat → Int32} {hm : Nat → Nat → Prop} {P : Nat → Nat → Int32} {n : Nat → Nat} {s : (Nat → Int32) × (Nat → Int32) × (Nat → Int32)} (hh : ∀ p, p < 6 → ∀ c, c < 8 → (hm p c ↔ ∃ j, j < n c ∧ nn (P c j) = p)) (hd : ∀ c, c < 8 → bsy (s.2.1 c) → ∀ d, d < 8 → bsy (s.2.1 d) → ∀ m, m < n c → ∀ j, j < n d → nn (P c m) = nn (P d j) → c = d) (h0 : ∀ c, c < 8 → bsy (s.2.1 c) → ∀ m, m < n c → s.1 (nn (P c m)) = 0) : ∀ p, p ≤ 6 → SP P n s.2.1 s.2.2 (wpR g rs hm P n s p).2.1 (wpR g rs hm P n s p).2.2 ∧ (∀ q, (wpR g rs hm P n s p).1 q = s.1 q ∨ (q < p ∧ ¬ g q = 0 ∧ (wpR g rs hm P n s p).1 q = rs q)) ∧ ∀ c, c < 8 → bsy ((wpR g rs hm P n s p).2.1 c) → ∀ m, m < n c → (wpR g rs hm P n s p).1 (nn (P c m)) = 0
  | 0, _ => ⟨SP_refl, fun _ => Or.inl rfl, h0⟩
  | p + 1, hp => by
    obtain ⟨i1, i2, i3⟩ := wpR_inv (g := g) (rs := rs) hh hd h0 p (by omega)
    rw [wpR]
    by_cases q : ¬ g p = 0 ∧ (wpR g rs hm P n s p).1 p = 0
    · rw [cif_t q]
      obtain ⟨A, hA⟩ : ∃ A, A = wpR g rs hm P n s p := ⟨_, rfl⟩
      rw [← hA] at i1 i2 i3 q ⊢
      have rea : ∀ t, uf A.1 p (rs p) t = s.1 t ∨ (t < p + 1 ∧ ¬ g t = 0 ∧ uf A.1 p (rs p) t = rs t) := by
        intro t
        unfold uf
        by_cases z : t = p
        · rw [if_pos z]
          refine Or.inr ⟨by omega, ?_, by rw [z]⟩
          rw [z]; exact q.1
        · rw [if_neg z]
          rcases i2 t with w | ⟨w1, w2, w3⟩
          · exact Or.inl w
          · exact Or.inr ⟨by omega, w2, w3⟩
      have sub : ∀ d, d < 8 → bsy (A.2.1 d) → bsy (s.2.1 d) := fun d hd' b => (i1.1 d hd').elim (fun w => w ▸ b) fun w => w.2.1
      show SP P n s.2.1 s.2.2 (wp2 (rs p) (hm p) P n A).1 (wp2 (rs p) (hm p) P n A).2 ∧ (∀ t, uf A.1 p (rs p) t = s.1 t ∨ (t < p + 1 ∧ ¬ g t = 0 ∧ uf A.1 p (rs p) t = rs t)) ∧ ∀ c, c < 8 → bsy ((wp2 (rs p) (hm p) P n A).1 c) → ∀ m, m < n c → uf A.1 p (rs p) (nn (P c m)) = 0
      unfold wp2
      by_cases z : rs p = 0
      · rw [cif_t z]
        refine ⟨i1, rea, fun c hc b m hm' => ?_⟩
        unfold uf
        split
        · exact z
        · exact i3 c hc b m hm'
      · rw [cif_f z]
        rcases fnd_inv (B := fun c => bsy (A.2.1 c) ∧ hm p c) (n := 8) with ⟨w, w2⟩ | ⟨c, hc, ⟨b1, b2⟩, _, w⟩
        · rw [w]
          refine ⟨i1, rea, fun c hc b m hm' => ?_⟩
          unfold uf
          by_cases y : nn (P c m) = p
          · exact absurd ⟨b, (hh p (by omega) c hc).mpr ⟨m, hm', y⟩⟩ (w2 c hc)
          · rw [if_neg y]
            exact i3 c hc b m hm'
        · rw [w]
          refine ⟨SP_trans i1 (SP_one hc b1), rea, fun d hd' b m hm' => ?_⟩
          have b' : bsy (uf A.2.1 c 5 d) := b
          unfold uf at b'
          have dc : ¬ d = c := fun e => by
            rw [if_pos e] at b'
            exact bsy_5 b'
          rw [if_neg dc] at b'
          unfold uf
          by_cases y : nn (P d m) = p
          · obtain ⟨j, hj, ej⟩ := (hh p (by omega) c hc).mp b2
            exact absurd (hd d hd' (sub d hd' b') c hc (sub c hc b1) m hm' j hj (y.trans ej.symm)) dc
          · rw [if_neg y]
            exact i3 d hd' b' m hm'
    · rw [cif_f q]
      refine ⟨i1, fun t => (i2 t).elim Or.inl fun w => Or.inr ⟨by omega, w.2⟩, i3⟩
theorem tick_3 (h : Rel I M) : Rel (wsI I (wpR (kG I) (kR I) (kM I) (kQ I) (kN I) (reQ I, stX I, I 100 1) 6)) (wsM M (mwR M 6)) := by
  have rc := h.1.2.2.2.2.1
  have pn : ∀ c, c < 8 → pnOk (mP M c) (mN M c) := fun c hc => (h.2.2.2.2.1 c hc).2.2
  have o6 : ∀ p, p < 6 → ok (Int32.ofNat p) 6 ∧ nn (Int32.ofNat p) = p := fun p hp => ⟨nt_ix (n := 6) hp (by decide), nn_nat (by omega)⟩
  obtain ⟨g1, g2, g3⟩ := wpR_cg (g := kG I) (g' := M 101 3) (rs := kR I) (rs' := mkR M) (hm := kM I) (hm' := mM M) (P := kQ I) (P' := mQ M) (n := kN I) (n' := mN M) (s := (reQ I, stX I, I 100 1)) (s' := (M 100 25, M 100 27, M 100 24)) (fun p hp => (h.1.2.2.1 p hp).1) (fun p hp q => by
      obtain ⟨o, e⟩ := o6 p hp
      have := rs_eq (p := Int32.ofNat p) (a := M 100 23 p) h.1.1 h.1.2.2.1 h.2.1 h.2.2.1 o (by rw [e]; exact q) (h.2.2.1 p hp).1
      unfold kR mkR
      rw [h.1.2.2.2.1.1]
      exact this) (fun p hp c hc => has_eq rc hc) (kN_eq rc) (fun c hc j hj => kP_eq rc c hc 0 (by decide) j hj) (fun p hp => (h.1.2.2.1 p hp).2.1) (stX_eq rc) h.1.2.2.2.1.2 6 (Nat.le_refl _)
  obtain ⟨A, hA⟩ : ∃ A, A = wpR (kG I) (kR I) (kM I) (kQ I) (kN I) (reQ I, stX I, I 100 1) 6 := ⟨_, rfl⟩
  obtain ⟨B, hB⟩ : ∃ B, B = mwR M 6 := ⟨_, rfl⟩
  have hB' : wpR (M 101 3) (mkR M) (mM M) (mQ M) (mN M) (M 100 25, M 100 27, M 100 24) 6 = B := by rw [hB, mwR]
  obtain ⟨sp, rea, zer⟩ := wpR_inv (g := M 101 3) (rs := mkR M) (hm := mM M) (P := mQ M) (n := mN M) (s := (M 100 25, M 100 27, M 100 24)) (fun p hp c hc => by
      show mHas M c (Int32.ofNat p) ↔ ∃ j, j < mN M c ∧ nn (mP M c 0 j) = p
      unfold mHas
      constructor
      · rintro ⟨m, hm, e⟩
        exact ⟨m, hm, by rw [e]; exact (o6 p hp).2⟩
      · rintro ⟨m, hm, e⟩
        exact ⟨m, hm, by rw [← e]; exact (nn_of (pn c hc m hm).1.1).symm⟩) (fun c hc b d hd bd m hm j hj e => ((h.2.2.2.2.2.1 c hc b m hm).2.2.2 d hd bd j hj e.symm).symm) (fun c hc b m hm => (h.2.2.2.2.2.1 c hc b m hm).2.1) 6 (Nat.le_refl _)
  rw [hB'] at g1 g2 g3 sp rea zer
  rw [← hA] at g1 g2 g3 ⊢
  rw [← hB]
  have ec : ∀ b i, ¬ ((b = 1 ∧ 40 ≤ i) ∨ b = 6 ∨ (b = 100 ∧ i = 1)) → wsI I A b i = I b i := by
    intro b i q
    rw [wsI, ro_ne (by omega)]
    funext f
    rw [stI, if_neg (by omega), reI, if_neg (by omega)]
  have e : ∀ b i, ¬ (b = 100 ∧ (i = 24 ∨ i = 25 ∨ i = 27)) → wsM M B b i = M b i := by
    intro b i q
    rw [wsM, hm2, ro_ne (by omega), ro_ne (by omega), ro_ne (by omega)]
  have e31 : wsM M B 8 0 31 = M 8 0 31 := by rw [e 8 0 (by omega)]
  have e32 : wsM M B 8 0 32 = M 8 0 32 := by rw [e 8 0 (by omega)]
  have e27 : wsM M B 100 27 = B.2.1 := wsM_x
  have e24 : wsM M B 100 24 = B.2.2 := wsM_v
  have e25 : wsM M B 100 25 = B.1 := wsM_q
  have sp' : SP (mQ M) (mN M) (M 100 27) (M 100 24) (wsM M B 100 27) (wsM M B 100 24) := by
    rw [e27, e24]
    exact sp
  have bs : ∀ c, c < 8 → bsy (wsM M B 100 27 c) → bsy (M 100 27 c) := fun d hd b => (sp'.1 d hd).elim (fun w => w ▸ b) fun w => w.2.1
  have eP : ∀ c f m, f < 5 → mP (wsM M B) c f m = mP M c f m := fun c f m hf => mP_fr (fun k _ _ => e 100 k (by omega)) hf
  have eN : ∀ c, mN (wsM M B) c = mN M c := fun c => mN_fr (e 100 29 (by omega))
  refine ⟨⟨RD_fr h.1.1 (funext fun i => ec 2 i (by omega)) (fun k _ _ => e 100 k (by omega)) (e 101 1 (by omega)) (e 101 2 (by omega)), RB_fr h.1.2.1 (fun p _ => ec 0 (1 + p) (by omega)) (fun k _ _ => e 100 k (by omega)), ?_, ?_, ?_, ?_, RH_fr h.1.2.2.2.2.2.2.1 (ec 101 0 (by omega)) (e 101 4 (by omega)), RJ_fr h.1.2.2.2.2.2.2.2 (funext fun i => ec 3 i (by omega)) (congrFun (ec 7 0 (by omega)) 11) (fun k _ => ec 1 k (by omega)) (fun k _ => ec 5 k (by omega)) (ec 100 6 (by omega)) h.2.2.2.2.2.2.2 e31 e32 (e 100 36 (by omega)) (e 100 37 (by omega))⟩, VD_fr h.2.1 (e 100 10 (by omega)) (e 100 11 (by omega)) (e 100 12 (by omega)) (e 100 14 (by omega)) (e 100 16 (by omega)) (e 101 1 (by omega)) (e 101 3 (by omega)), ?_, VB_fr h.2.2.2.1 (fun k _ _ => e 100 k (by omega)), VC_fr h.2.2.2.2.1 (fun k _ _ => e 100 k (by omega)), ?_, ?_, VJ_fr h.2.2.2.2.2.2.2 (funext fun i => ec 3 i (by omega)) (fun k _ => ec 1 k (by omega)) (ec 100 6 (by omega)) e31 (e 100 36 (by omega)) (e 100 37 (by omega))⟩
  · intro p hp
    obtain ⟨q1, q2, q3⟩ := h.1.2.2.1 p hp
    have el : lea (wsI I A) p = lea I p := by
      unfold lea
      rw [wsI_6 (by decide), wsI_6 (by decide)]
    rw [wsI_6 (by decide), wsI_q hp, el, e25, e 100 26 (by omega), e 101 3 (by omega)]
    exact ⟨q1, g1 p hp, q3⟩
  · exact ⟨by rw [ec 100 0 (by omega), e 100 23 (by omega)]; exact h.1.2.2.2.1.1, by rw [wsI_v, e24, g3]⟩
  · intro c hc
    obtain ⟨h1, h2, h3, h4⟩ := rc c hc
    rw [wsI_x hc, wsI_1 (by decide), wsI_1 (by decide), e27, e 100 28 (by omega), e 100 29 (by omega), eN]
    refine ⟨g2 c hc, h2, h3, fun m hm f hf => ?_⟩
    rw [ec 5 _ (by omega), eP c f m hf]
    exact h4 m hm f hf
  · exact RG_fr h.1.2.2.2.2.2.1 (ec 100 2 (by omega)) (fun k _ _ => e 100 k (by omega)) bs
  · intro p hp
    obtain ⟨v1, v2, v3, v4, v5⟩ := h.2.2.1 p hp
    rw [e 100 23 (by omega), e25, e 101 3 (by omega), e 100 10 (by omega)]
    refine ⟨v1, ?_, ?_, fun q => ⟨(v4 q).1, ?_⟩, v5⟩
    · rcases sp'.2 p with w | ⟨w, _⟩
      · rw [w]; exact v2
      · rw [w]; exact ⟨by decide, by decide⟩
    · rcases rea p with w | ⟨_, _, w⟩
      · rw [w]; exact v3
      · rw [w]; exact rsM_4.1
    · rcases rea p with w | ⟨_, y, _⟩
      · rw [w]; exact (v4 q).2
      · exact absurd q y
  · exact SP_VA h.2.2.2.2.2.1 sp' (fun k _ _ => e 100 k (by omega)) (e 100 23 (by omega)) (fun c hc b m hm => by
      rw [e25]
      rw [e27] at b
      exact zer c hc b m hm) (e 101 3 (by omega))
  · exact SP_VS h.2.2.2.2.2.2.1 sp' (fun k _ _ => e 100 k (by omega))
/-- a tick of both -/
theorem tick_rel (h : Rel I M) : Rel (tk3 I) (mk3 M) ∧ tkC I = mkC M ∧ tmOk M := by
  obtain ⟨h1, t1⟩ := tick_1 h
  obtain ⟨h2, c2⟩ := tick_2 h1
  have h3 := tick_3 h2
  refine ⟨h3, c2, fun c hc => ⟨mpOk_of h.2.2.2.2.1 hc, (h.2.2.2.2.1 c hc).1⟩, t1, fun k hk => ⟨(h.2.1 k hk).1, (h.2.1 k hk).2.1⟩, fun p hp => (h.2.2.1 p hp).2.2.1⟩
theorem tickN_rel (h : Rel I M) : ∀ n, Rel (tkN I n).1 (mkN M n).1 ∧ (tkN I n).2 = (mkN M n).2
  | 0 => ⟨h, rfl⟩
  | n + 1 => by
    obtain ⟨i1, _⟩ := tickN_rel h n
    obtain ⟨a, b, _⟩ := tick_rel i1
    rw [tkN, mkN]
    exact ⟨a, b⟩
theorem tk3_o {b i : Nat} (h : ¬ (b = 1 ∨ b = 2 ∨ b = 6 ∨ (b = 100 ∧ (i = 0 ∨ i = 1)))) : tk3 I b i = I b i := by
  have h1 : tk1 I b i = I b i := by
    rw [tk1, cs3, ms2, ro_ne (by omega), ro_ne (by omega)]
    funext f
    rw [stI, if_neg (by omega)]
  have h2 : tk2 I b i = tk1 I b i := by rw [tk2, dvI_b (by omega)]
  rw [tk3, wsI, ro_ne (by omega)]
  funext f
  rw [stI, if_neg (by omega), reI, if_neg (by omega), h2, h1]
theorem tkN_o {b i : Nat} (h : ¬ (b = 1 ∨ b = 2 ∨ b = 6 ∨ (b = 100 ∧ (i = 0 ∨ i = 1)))) : ∀ n, (tkN I n).1 b i = I b i
  | 0 => rfl
  | n + 1 => (tk3_o h).trans (tkN_o h n)
theorem mk3_o {b i : Nat} (h : ¬ ((b = 100 ∧ 10 ≤ i) ∨ (b = 101 ∧ 1 ≤ i))) : mk3 M b i = M b i := by
  have mF : mdF b i = 9 := by
    unfold mdF
    by_cases z : b = 100
    · rw [if_pos z, if_neg (by omega), if_neg (by omega), if_neg (by omega), if_neg (by omega), if_neg (by omega)]
    · rw [if_neg z, if_neg (by omega)]
  have h1 : mk1 M b i = M b i := by rw [mk1, ts3, av2, ro_ne (by omega), ro_ne (by omega), ro_ne (by omega)]
  have h2 : mk2 M b i = mk1 M b i := mdA_r mF
  rw [mk3, wsM, hm2, ro_ne (by omega), ro_ne (by omega), ro_ne (by omega), h2, h1]
theorem mkN_o {b i : Nat} (h : ¬ ((b = 100 ∧ 10 ≤ i) ∨ (b = 101 ∧ 1 ≤ i))) : ∀ n, (mkN M n).1 b i = M b i
  | 0 => rfl
  | n + 1 => (mk3_o h).trans (mkN_o h n)
theorem tOk_of (h : Rel I I) : tOk I := by
  have rc := h.1.2.2.2.2.1
  refine ⟨fun c hc => ⟨plOk_of rc h.2.2.2.2.1 hc, by rw [(rc c hc).2.1]; exact (h.2.2.2.2.1 c hc).1⟩, fun p hp => by rw [h.1.2.2.2.1.2]; exact (h.2.2.1 p hp).2.1, hd_c h⟩
theorem p_tick {n : Int32} (hR : Rel I I) : rf_C l 128 [dk, .inl n, ol] (sS L I J) (tpV l L I 135 [mo, .inl n]) := by
  refine e_tick (c_tick (tOk_of hR) (fun a1 => ?_) (fun a1 => ?_))
  · exact ⟨1, I, J, rfl, rfl, rfl, fun Q' q => d_tick (fun a => absurd ((wi_ok (n := 200) (by decide)).mpr a) a1) (fun _ => q _ _ (Rel_th hR) th_200 thI_0 (fun z => absurd z (by decide))) (fun a => absurd ((wi_ok (n := 200) (by decide)).mpr a) a1)⟩
  · have a2 := (wi_ok (n := 200) (by decide)).mpr a1
    obtain ⟨K, hK⟩ : ∃ K, K = (tkN I (nn n)).1 := ⟨_, rfl⟩
    rw [← hK]
    have kI : ∀ b i, ¬ (b = 1 ∨ b = 2 ∨ b = 6 ∨ (b = 100 ∧ (i = 0 ∨ i = 1))) → K b i = I b i := fun b i h => by rw [hK]; exact tkN_o h (nn n)
    have r0 : Rel I (thI K 0) := Rel_eq hR (fun _ _ _ => rfl) (fun b i h => by rw [thI_b (by omega), kI b i (by omega)]) (by rw [thI_8 (by decide), kI 8 0 (by omega)]) (by rw [thI_8 (by decide), kI 8 0 (by omega)])
    obtain ⟨r1, r2⟩ := tickN_rel r0 (nn n)
    refine ⟨z102, 0, K, _, rfl, rfl, funext fun i => kI 200 i (by omega), fun Q' q => d_tick (fun _ m _ => (tick_rel (tickN_rel r0 m).1).2.2) (fun a => absurd a2 a) (fun _ => ?_)⟩
    have o : ∀ b i, ¬ ((b = 100 ∧ 10 ≤ i) ∨ (b = 101 ∧ 1 ≤ i)) → (mkN (thI K 0) (nn n)).1 b i = thI K 0 b i := fun b i h => mkN_o h (nn n)
    refine q _ _ ?_ (funext fun i => by rw [o 200 i (by omega), thI_b (by decide), kI 200 i (by omega)]) (by rw [o 8 0 (by omega), thI_0]) (fun _ => by rw [← r2]; simp [rf_u3])
    rw [← hK] at r1
    exact Rel_eq r1 (fun b i h => by rw [o b i (by omega), thI_b (by omega)]) (fun _ _ _ => rfl) rfl rfl
end PP
