/-! the model: couldMeet -/
section NB
variable {l : Launch} {Q : rf_O → rf_S → Prop} {L : Nat} {I : Nat → Nat → Nat → Int32} {J : Nat → Nat → Nat → Int64} {σ : rf_S}
/-- what is asked of a plan's rows -/
def pOk (P : Nat → Nat → Int32) (n : Nat) : Prop := ∀ m, m < n → ok (P 0 m) 6 ∧ (¬ P 3 m = -1 → ok (P 3 m) m)
theorem mayG_cg {P P' : Nat → Nat → Int32} {b a a' : Nat → Int32} {n m : Nat} (hP : ∀ f m, f < 5 → P f m = P' f m) (hk : pOk P n) (ha : ∀ p, p < 6 → a p = a' p) (hm : m < n) : mayG P b a m ↔ mayG P' b a' m := by
  unfold mayG
  rw [← hP 3 m (by decide), ← hP 1 _ (by decide), ← hP 0 _ (by decide), ← hP 4 m (by decide)]
  by_cases e : P 3 m = -1
  · exact ⟨fun _ => Or.inl e, fun _ => Or.inl e⟩
  · have o := (hk m hm).2 e
    have o2 : nn (P 3 m) < m := o.2
    rw [ha (nn (P 0 (nn (P 3 m)))) (hk (nn (P 3 m)) (by omega)).1.2]
theorem cb1_cg {P P' : Nat → Nat → Int32} {b ms : Nat → Int32} {x y : Int32} {t t' : Int32 × (Nat → Int32)} {n : Nat} (hP : ∀ f m, f < 5 → P f m = P' f m) (hk : pOk P n) (h1 : t.1 = t'.1) (h2 : ∀ p, p < 6 → t.2 p = t'.2 p) : ∀ m, m ≤ n → (cb1 P b ms x y t m).1 = (cb1 P' b ms x y t' m).1 ∧ ∀ p, p < 6 → (cb1 P b ms x y t m).2 p = (cb1 P' b ms x y t' m).2 p
  | 0, _ => ⟨h1, h2⟩
  | m + 1, hm => by
    obtain ⟨i1, i2⟩ := cb1_cg (b := b) (ms := ms) (x := x) (y := y) hP hk h1 h2 m (by omega)
    have g := mayG_cg (b := b) hP hk i2 (show m < n by omega)
    have p6 : nn (P 0 m) < 6 := (hk m (by omega)).1.2
    rw [cb1, cb1, ← hP 0 m (by decide), ← hP 1 m (by decide)]
    by_cases e : P 0 m = x ∨ P 0 m = y
    · rw [cif_t e, cif_t e]
      refine ⟨?_, i2⟩
      show cif _ _ _ = cif _ _ _
      rw [i1, i2 _ p6]
      by_cases f : ¬ (cb1 P' b ms x y t' m).1 = 0 ∧ (mayG P' b (cb1 P' b ms x y t' m).2 m ∨ (cb1 P' b ms x y t' m).2 (nn (P 0 m)) = ms (nn (P 0 m)))
      · rw [cif_t f, cif_t ⟨f.1, f.2.elim (fun q => Or.inl (g.mpr q)) Or.inr⟩]
      · rw [cif_f f, cif_f fun q => f ⟨q.1, q.2.elim (fun q => Or.inl (g.mp q)) Or.inr⟩]
    · rw [cif_f e, cif_f e]
      refine ⟨i1, fun p hp => ?_⟩
      show uf _ _ _ p = uf _ _ _ p
      have ec : cif (mayG P b (cb1 P b ms x y t m).2 m) (P 1 m) (ms (nn (P 0 m))) = cif (mayG P' b (cb1 P' b ms x y t' m).2 m) (P 1 m) (ms (nn (P 0 m))) := by
        by_cases f : mayG P' b (cb1 P' b ms x y t' m).2 m
        · rw [cif_t f, cif_t (g.mpr f)]
        · rw [cif_f f, cif_f fun q => f (g.mp q)]
      rw [ec, uf, uf, i2 p hp]
theorem cb2_cg {P P' : Nat → Nat → Nat → Int32} {b : Nat → Nat → Int32} {n : Nat → Nat} {ms s : Nat → Int32} {a x y : Int32} {t t' : Int32 × (Nat → Int32)} (hP : ∀ c f m, f < 5 → P c f m = P' c f m) (hk : ∀ c, c < 8 → pOk (P c) (n c)) (h1 : t.1 = t'.1) (h2 : ∀ p, p < 6 → t.2 p = t'.2 p) : ∀ c, c ≤ 8 → (cb2 P b n ms s a x y t c).1 = (cb2 P' b n ms s a x y t' c).1 ∧ ∀ p, p < 6 → (cb2 P b n ms s a x y t c).2 p = (cb2 P' b n ms s a x y t' c).2 p
  | 0, _ => ⟨h1, h2⟩
  | c + 1, hc => by
    obtain ⟨i1, i2⟩ := cb2_cg (b := b) (ms := ms) (s := s) (a := a) (x := x) (y := y) hP hk h1 h2 c (by omega)
    rw [cb2, cb2]
    by_cases e : Int32.ofNat c = a ∨ bsy (s c)
    · rw [cif_t e, cif_t e]
      exact cb1_cg (hP c) (hk c (by omega)) i1 i2 (n c) (Nat.le_refl _)
    · rw [cif_f e, cif_f e]
      exact ⟨i1, i2⟩
/-- whether two pieces can be there -/
noncomputable def cbV (I : Nat → Nat → Nat → Int32) (a pa b pb r : Int32) : Int32 := (cb2 (mP I) (mB I) (mN I) (I 100 23) (I 100 27) r a b (1, uf (uf (I 100 23) (nn a) pa) (nn b) pb) 8).1
theorem mpOk_p {c : Nat} (h : mpOk I c) : pOk (mP I c) (mN I c) := fun m hm => ⟨(h.2 m hm).1, (h.2 m hm).2.2⟩
theorem cbR_w {w : Nat → Int32} {a pa b pb r : Int32} (hc : ∀ c, c < 8 → mpOk I c) : (cbR (ro I 100 38 w) a pa b pb r).1 = cbV I a pa b pb r := by
  have e23 : ro I 100 38 w 100 23 = I 100 23 := ro_ne (by decide)
  have e27 : ro I 100 38 w 100 27 = I 100 27 := ro_ne (by decide)
  have e29 : ro I 100 38 w 100 29 = I 100 29 := ro_ne (by decide)
  have e35 : ro I 100 38 w 100 35 = I 100 35 := ro_ne (by decide)
  have eN : mN (ro I 100 38 w) = mN I := by
    funext c
    unfold mN
    rw [e29]
  have eB : mB (ro I 100 38 w) = mB I := by
    funext c m
    unfold mB
    rw [e35]
  have eP : ∀ c f m, f < 5 → mP (ro I 100 38 w) c f m = mP I c f m := fun c f m hf => by
    show ro I 100 38 w 100 (30 + f) _ = _
    rw [ro_ne (by omega)]
    rfl
  unfold cbR cbV
  rw [e23, e27, eN, eB]
  refine (cb2_cg (t := (1, cb0 (ro I 100 38 w) a pa b pb)) (t' := (1, uf (uf (I 100 23) (nn a) pa) (nn b) pb)) (fun c f m hf => eP c f m hf) (fun c hc8 m hm => ?_) rfl (fun p hp => ?_) 8 (Nat.le_refl _)).1
  · have := (hc c hc8).2 m hm
    rw [eP c 0 m (by decide), eP c 3 m (by decide)]
    exact ⟨this.1, this.2.2⟩
  · show cb0 (ro I 100 38 w) a pa b pb p = uf (uf (I 100 23) (nn a) pa) (nn b) pb p
    unfold cb0
    rw [e23]
    unfold uf
    by_cases h1 : p = nn b
    · rw [if_pos h1, if_pos h1]
    · rw [if_neg h1, if_neg h1]
      by_cases h2 : p = nn a
      · rw [if_pos h2, if_pos h2]
      · rw [if_neg h2, if_neg h2, slR, if_pos hp]
def loV (A u : Int32) : Int32 := if u ≤ A then u else A
def hiV (A u : Int32) : Int32 := if A ≤ u then u else A
/-- how far a piece may go -/
def farV (I : Nat → Nat → Nat → Int32) (p r u : Int32) : Prop := (∃ c m, c < 8 ∧ m < mN I c ∧ mP I c 0 m = p ∧ (Int32.ofNat c = r ∨ bsy (I 100 27 c)) ∧ u = mP I c 1 m) ∨ ((∀ c, c < 8 → ¬ farB I p r c) ∧ u = I 100 23 (nn p))
def cmX (I : Nat → Nat → Nat → Int32) (a b r u v : Int32) : Prop := ∃ x y : Nat, nn (loV (I 100 23 (nn a)) u) ≤ x ∧ x ≤ nn (hiV (I 100 23 (nn a)) u) ∧ nn (loV (I 100 23 (nn b)) v) ≤ y ∧ y ≤ nn (hiV (I 100 23 (nn b)) v) ∧ hov I (nn a) (nn b) (Int32.ofNat x) (Int32.ofNat y) ∧ ¬ cbV I a (Int32.ofNat x) b (Int32.ofNat y) r = 0
theorem loV_pl {A u : Int32} (hA : pl A) (hu : pl u) : pl (loV A u) := by unfold loV; split <;> assumption
theorem hiV_pl {A u : Int32} (hA : pl A) (hu : pl u) : pl (hiV A u) := by unfold hiV; split <;> assumption
theorem lohi {A u : Int32} (hA : pl A) (hu : pl u) : nn (loV A u) ≤ nn (hiV A u) := by
  refine (nn_le (loV_pl hA hu).1 (by have := pl_n (hiV_pl hA hu); omega)).mp ?_
  rw [nn_of (hiV_pl hA hu).1]
  unfold loV hiV
  by_cases h : u ≤ A
  · rw [if_pos h]
    by_cases h' : A ≤ u
    · rw [if_pos h']; exact Int32.le_refl _
    · rw [if_neg h']; exact h
  · rw [if_neg h, if_pos (Int32.le_of_lt (i_nle.mp h))]
    exact Int32.le_of_lt (i_nle.mp h)
theorem farV_pl {p r u : Int32} (hp : ok p 6) (hm : ∀ p, p < 6 → pl (I 100 23 p)) (hg : ∀ c, c < 8 → ∀ m, m < mN I c → pl (mP I c 1 m)) (h : farV I p r u) : pl u := by
  rcases h with ⟨c, m, h1, h2, h3, h4, rfl⟩ | ⟨_, rfl⟩
  · exact hg c h1 m h2
  · exact hm _ hp.2
theorem d_far' {p a : Int32} (hp : ok p 6) (hN : ∀ c, c < 8 → ok (I 100 29 c) 5) (hq : ∀ u, farV I p a u → Q (.inl (some (.inl u))) (sS L I J)) : rf_C l 85 [.inr (.inr (some (8, 0))), .inl p, .inl a] (sS L I J) Q :=
  d_far hp hN (fun c m h1 h2 h3 _ h5 _ => hq _ (Or.inl ⟨c, m, h1, h2, h3, h5.2, rfl⟩)) (fun h => hq _ (Or.inr ⟨h, rfl⟩))
theorem d_couldMeet {a b r : Int32} (ha : ok a 6) (hb : ok b 6) (hc : ∀ c, c < 8 → mpOk I c) (hm : ∀ p, p < 6 → pl (I 100 23 p)) (hg : ∀ c, c < 8 → ∀ m, m < mN I c → pl (mP I c 1 m))
    (h1 : ∀ u v, farV I a r u → farV I b r v → bsd I (nn a) (nn b) → cmX I a b r u v → ∀ w, Q (.inl (some (.inl 1))) (sS L (ro I 100 38 w) J))
    (h0' : ¬ bsd I (nn a) (nn b) → Q (.inl (some (.inl 0))) (sS L I J))
    (h0 : ∀ u v, farV I a r u → farV I b r v → bsd I (nn a) (nn b) → ¬ cmX I a b r u v → ∀ w, Q (.inl (some (.inl 0))) (sS L (ro I 100 38 w) J)) : rf_C l 89 [.inr (.inr (some (8, 0))), .inl a, .inl b, .inl r] (sS L I J) Q := by
  apply rf_C.ofW
  have hN : ∀ c, c < 8 → ok (I 100 29 c) 5 := fun c h => (hc c h).1
  refine rf_goW rf_mo_89 rf_T_89 30 [11] (And.intro ⟨by decide, by decide⟩ (d_besideOne ha hb (fun e => br_ne1 ?_) (fun e => br_ne0 (And.intro (Or.inl rfl) (h0' e)))))
  have g11 : rf_W l 89 11 [some (.inr (.inr (some (8, 0)))), some (.inl a), some (.inl b), some (.inl r), none, none, none, none, none, none, none, none] [] (sS L I J) 0 0 Q := by
    have pA := hm _ ha.2
    have pB := hm _ hb.2
    refine rf_goW rf_mo_89 rf_T_89 60 [27] (And.intro ⟨by decide, by decide⟩ (d_far' ha hN (fun u hu => And.intro ⟨by decide, by decide⟩ (d_far' hb hN (fun v hv => ?_)))))
    have pU : pl u := farV_pl ha hm hg hu
    have pV : pl v := farV_pl hb hm hg hv
    obtain ⟨X0, hX0⟩ : ∃ X0, X0 = nn (loV (I 100 23 (nn a)) u) := ⟨_, rfl⟩
    obtain ⟨X1, hX1⟩ : ∃ X1, X1 = nn (hiV (I 100 23 (nn a)) u) := ⟨_, rfl⟩
    obtain ⟨Y0, hY0⟩ : ∃ Y0, Y0 = nn (loV (I 100 23 (nn b)) v) := ⟨_, rfl⟩
    obtain ⟨Y1, hY1⟩ : ∃ Y1, Y1 = nn (hiV (I 100 23 (nn b)) v) := ⟨_, rfl⟩
    have eX0 : loV (I 100 23 (nn a)) u = Int32.ofNat X0 := by rw [hX0]; exact (nn_of (loV_pl pA pU).1).symm
    have eX1 : hiV (I 100 23 (nn a)) u = Int32.ofNat X1 := by rw [hX1]; exact (nn_of (hiV_pl pA pU).1).symm
    have eY0 : loV (I 100 23 (nn b)) v = Int32.ofNat Y0 := by rw [hY0]; exact (nn_of (loV_pl pB pV).1).symm
    have eY1 : hiV (I 100 23 (nn b)) v = Int32.ofNat Y1 := by rw [hY1]; exact (nn_of (hiV_pl pB pV).1).symm
    have bX : X0 ≤ X1 := by rw [hX0, hX1]; exact lohi pA pU
    have bY : Y0 ≤ Y1 := by rw [hY0, hY1]; exact lohi pB pV
    have cX : X1 ≤ 400 := by rw [hX1]; exact pl_n (hiV_pl pA pU)
    have cY : Y1 ≤ 400 := by rw [hY1]; exact pl_n (hiV_pl pB pV)
    have h1' := h1 u v hu hv e
    have h0'' := h0 u v hu hv e
    unfold cmX at h1' h0''
    rw [← hX0, ← hX1, ← hY0, ← hY1] at h1' h0''
    obtain ⟨M, hM⟩ : ∃ M : Nat → Nat → Prop, M = fun x y => hov I (nn a) (nn b) (Int32.ofNat x) (Int32.ofNat y) ∧ ¬ cbV I a (Int32.ofNat x) b (Int32.ofNat y) r = 0 := ⟨_, rfl⟩
    have outer : ∀ i, i ≤ X1 + 1 → X0 ≤ i → (∀ x y, X0 ≤ x → x < i → Y0 ≤ y → y ≤ Y1 → ¬ M x y) → ∀ w, rf_W l 89 127 [some (.inr (.inr (some (8, 0)))), some (.inl a), some (.inl b), some (.inl r), none, none, none, some (.inl (Int32.ofNat X1)), some (.inl (Int32.ofNat Y0)), some (.inl (Int32.ofNat Y1)), some (.inl (Int32.ofNat i)), none] [] (sS L (ro I 100 38 w) J) 0 0 Q := by
      refine lp_dn ?_ ?_
      · intro _ hn w
        refine rf_goW rf_mo_89 rf_T_89 30 [127] (And.intro (fun _ => And.intro (Or.inl rfl) (h0'' (fun ⟨x, y, q1, q2, q3, q4, q5⟩ => hn x y q1 (by omega) q3 q4 (by rw [hM]; exact q5)) w)) (fun hd => absurd ((nt_lt (by omega) (by omega)).mpr (by omega)) hd))
      · intro i hi ih hi0 hn w
        rw [← nt_succ i] at ih
        have inner : ∀ j, j ≤ Y1 + 1 → Y0 ≤ j → (∀ y, Y0 ≤ y → y < j → ¬ M i y) → ∀ w, rf_W l 89 138 [some (.inr (.inr (some (8, 0)))), some (.inl a), some (.inl b), some (.inl r), none, none, none, some (.inl (Int32.ofNat X1)), some (.inl (Int32.ofNat Y0)), some (.inl (Int32.ofNat Y1)), some (.inl (Int32.ofNat i)), some (.inl (Int32.ofNat j))] [] (sS L (ro I 100 38 w) J) 0 0 Q := by
          refine lp_dn ?_ ?_
          · intro _ hy w
            refine rf_goW rf_mo_89 rf_T_89 30 [127, 138] (And.intro (fun _ => fgt (ih (by omega) (fun x y q1 q2 q3 q4 => ?_) w) (by repeat (first | exact True.intro | refine And.intro rfl ?_))) (fun hd => absurd ((nt_lt (by omega) (by omega)).mpr (by omega)) hd))
            by_cases ex : x = i
            · rw [ex]; exact hy y q3 (by omega)
            · exact hn x y q1 (by omega) q3 q4
          · intro j hj ihj hj0 hy w
            rw [← nt_succ j] at ihj
            have e20 : ro I 100 38 w 100 20 = I 100 20 := ro_ne (by decide)
            have no : ∀ w', ¬ M i j → rf_W l 89 138 [some (.inr (.inr (some (8, 0)))), some (.inl a), some (.inl b), some (.inl r), none, none, none, some (.inl (Int32.ofNat X1)), some (.inl (Int32.ofNat Y0)), some (.inl (Int32.ofNat Y1)), some (.inl (Int32.ofNat i)), some (.inl (Int32.ofNat j + 1))] [] (sS L (ro I 100 38 w') J) 0 0 Q := by
              intro w' q
              refine ihj (by omega) (fun y q1 q2 => ?_) w'
              by_cases ey : y = j
              · rw [ey]; exact q
              · exact hy y q1 (by omega)
            have ho : ∀ K, K = I 100 20 → (ovl (Int32.ofNat i - K (nn a)) (K (nn a)) (Int32.ofNat j - K (nn b)) (K (nn b)) ↔ hov I (nn a) (nn b) (Int32.ofNat i) (Int32.ofNat j)) := by
              rintro _ rfl
              exact Iff.rfl
            refine rf_goW rf_mo_89 rf_T_89 60 [138] (And.intro (fun hd => absurd ((nt_lt (by omega) (by omega)).mp hd) (by omega)) (fun _ => And.intro ha (And.intro ha (And.intro hb (And.intro hb (And.intro ⟨by decide, by decide⟩ (d_overlap (fun k => br_eq1 ?_) (fun k => br_eq0 (no w ?_)))))))))
            · have k' := (ho _ e20).mp k
              have hc' : ∀ c, c < 8 → mpOk (ro I 100 38 w) c := by
                intro c h8
                have eP : ∀ f m, f < 5 → mP (ro I 100 38 w) c f m = mP I c f m := fun f m hf => by
                  show ro I 100 38 w 100 (30 + f) _ = _
                  rw [ro_ne (by omega)]
                  rfl
                have e29 : ro I 100 38 w 100 29 = I 100 29 := ro_ne (by decide)
                refine ⟨by rw [e29]; exact (hc c h8).1, fun m hm' => ?_⟩
                have hm'' : m < mN I c := by unfold mN at hm' ⊢; rw [e29] at hm'; exact hm'
                have := (hc c h8).2 m hm''
                rw [eP 0 m (by decide), eP 2 m (by decide), eP 3 m (by decide)]
                exact this
              refine And.intro ⟨by decide, by decide⟩ (d_canBe (I := ro I 100 38 w) ha hb hc' (fun t ht => ?_))
              have et : t.1 = cbV I a (Int32.ofNat i) b (Int32.ofNat j) r := by rw [ht]; exact cbR_w hc
              rw [ro_ro]
              refine And.intro (fun f => ?_) (fun f => And.intro (Or.inr rfl) (h1' ⟨i, j, hi0, by omega, hj0, by omega, k', fun q => f (et.trans q)⟩ _))
              refine no _ ?_
              rw [hM]
              exact fun q => q.2 (et.symm.trans f)
            · rw [hM]
              exact fun q => k ((ho _ e20).mpr q.1)
        refine rf_goW rf_mo_89 rf_T_89 30 [138] (And.intro (fun hd => absurd ((nt_lt (by omega) (by omega)).mp hd) (by omega)) (fun _ => ?_))
        exact fgt (inner Y0 (by omega) (Nat.le_refl _) (fun y q1 q2 => absurd q2 (by omega)) w) (by repeat (first | exact True.intro | refine And.intro rfl ?_))
    have st := outer X0 (by omega) (Nat.le_refl _) (fun x y q1 q2 => absurd q2 (by omega)) (I 100 38)
    rw [ro_id] at st
    have g121 : ∀ z, z = hiV (I 100 23 (nn b)) v → rf_W l 89 121 [some (.inr (.inr (some (8, 0)))), some (.inl a), some (.inl b), some (.inl r), some (.inl u), some (.inl v), some (.inl (loV (I 100 23 (nn a)) u)), some (.inl (hiV (I 100 23 (nn a)) u)), some (.inl (loV (I 100 23 (nn b)) v)), none, none, none] [.inl z] (sS L I J) 0 0 Q := by
      rintro _ rfl
      rw [eX0, eX1, eY0, eY1]
      exact rf_goW rf_mo_89 rf_T_89 30 [127] (fgt st (by repeat (first | exact True.intro | refine And.intro rfl ?_)))
    have g97 : ∀ z, z = loV (I 100 23 (nn b)) v → rf_W l 89 97 [some (.inr (.inr (some (8, 0)))), some (.inl a), some (.inl b), some (.inl r), some (.inl u), some (.inl v), some (.inl (loV (I 100 23 (nn a)) u)), some (.inl (hiV (I 100 23 (nn a)) u)), none, none, none, none] [.inl z] (sS L I J) 0 0 Q := by
      rintro _ rfl
      refine rf_goW rf_mo_89 rf_T_89 30 [121] (And.intro hb (And.intro (fun (f : I 100 23 (nn b) ≤ v) => g121 _ ?_) (fun (f : ¬ I 100 23 (nn b) ≤ v) => And.intro hb (g121 _ ?_))))
      · rw [hiV, if_pos f]
      · rw [hiV, if_neg f]
        rfl
    have g73 : ∀ z, z = hiV (I 100 23 (nn a)) u → rf_W l 89 73 [some (.inr (.inr (some (8, 0)))), some (.inl a), some (.inl b), some (.inl r), some (.inl u), some (.inl v), some (.inl (loV (I 100 23 (nn a)) u)), none, none, none, none, none] [.inl z] (sS L I J) 0 0 Q := by
      rintro _ rfl
      refine rf_goW rf_mo_89 rf_T_89 30 [97] (And.intro hb (And.intro (fun (f : v ≤ I 100 23 (nn b)) => g97 _ ?_) (fun (f : ¬ v ≤ I 100 23 (nn b)) => And.intro hb (g97 _ ?_))))
      · rw [loV, if_pos f]
      · rw [loV, if_neg f]
        rfl
    have g49 : ∀ z, z = loV (I 100 23 (nn a)) u → rf_W l 89 49 [some (.inr (.inr (some (8, 0)))), some (.inl a), some (.inl b), some (.inl r), some (.inl u), some (.inl v), none, none, none, none, none, none] [.inl z] (sS L I J) 0 0 Q := by
      rintro _ rfl
      refine rf_goW rf_mo_89 rf_T_89 30 [73] (And.intro ha (And.intro (fun (f : I 100 23 (nn a) ≤ u) => g73 _ ?_) (fun (f : ¬ I 100 23 (nn a) ≤ u) => And.intro ha (g73 _ ?_))))
      · rw [hiV, if_pos f]
      · rw [hiV, if_neg f]
        rfl
    have g27 : rf_W l 89 27 [some (.inr (.inr (some (8, 0)))), some (.inl a), some (.inl b), some (.inl r), some (.inl u), some (.inl v), none, none, none, none, none, none] [] (sS L I J) 0 0 Q := by
      refine rf_goW rf_mo_89 rf_T_89 30 [49] (And.intro ha (And.intro (fun (f : u ≤ I 100 23 (nn a)) => g49 _ ?_) (fun (f : ¬ u ≤ I 100 23 (nn a)) => And.intro ha (g49 _ ?_))))
      · rw [loV, if_pos f]
      · rw [loV, if_neg f]
        rfl
    exact g27
  exact g11
end NB
