/-! the model: arm -/
section NC
variable {l : Launch} {Q : rf_O → rf_S → Prop} {L : Nat} {I : Nat → Nat → Nat → Int32} {J : Nat → Nat → Nat → Int64} {σ : rf_S}
theorem w_P {w : Nat → Int32} {c f m : Nat} (hf : f < 5) : mP (ro I 100 38 w) c f m = mP I c f m := by
  show ro I 100 38 w 100 (30 + f) _ = _
  rw [ro_ne (by omega)]
  rfl
theorem w_N {w : Nat → Int32} {c : Nat} : mN (ro I 100 38 w) c = mN I c := by
  unfold mN
  rw [ro_ne (by decide)]
theorem w_ok {w : Nat → Int32} {c : Nat} (h : mpOk I c) : mpOk (ro I 100 38 w) c := by
  refine ⟨by rw [ro_ne (by decide)]; exact h.1, fun m hm => ?_⟩
  rw [w_N] at hm
  rw [w_P (by decide), w_P (by decide), w_P (by decide)]
  exact h.2 m hm
theorem w_far {w : Nat → Int32} {p r u : Int32} : farV (ro I 100 38 w) p r u ↔ farV I p r u := by
  unfold farV farB mHas
  simp only [w_P (I := I) (w := w) (f := 0) (by decide), w_P (I := I) (w := w) (f := 1) (by decide), w_N, ro_ne (I := I) (b := 100) (i := 38) (g := w) (b' := 100) (i' := 27) (by decide), ro_ne (I := I) (b := 100) (i := 38) (g := w) (b' := 100) (i' := 23) (by decide)]
theorem w_bsd {w : Nat → Int32} {a b : Nat} : bsd (ro I 100 38 w) a b ↔ bsd I a b := by
  unfold bsd
  rw [ro_ne (by decide), ro_ne (by decide), ro_ne (by decide), ro_ne (by decide)]
theorem w_cbV {w : Nat → Int32} {a pa b pb r : Int32} (hc : ∀ c, c < 8 → mpOk I c) : cbV (ro I 100 38 w) a pa b pb r = cbV I a pa b pb r := by
  have eN : mN (ro I 100 38 w) = mN I := funext fun c => w_N
  have eB : mB (ro I 100 38 w) = mB I := by
    funext c m
    unfold mB
    rw [ro_ne (by decide)]
  unfold cbV
  rw [ro_ne (by decide), ro_ne (by decide), eN, eB]
  refine (cb2_cg (fun c f m hf => w_P hf) (fun c hc8 m hm => ?_) rfl (fun p hp => rfl) 8 (Nat.le_refl _)).1
  have := (hc c hc8).2 m hm
  rw [w_P (by decide), w_P (by decide)]
  exact ⟨this.1, this.2.2⟩
theorem w_cmX {w : Nat → Int32} {a b r u v : Int32} (hc : ∀ c, c < 8 → mpOk I c) : cmX (ro I 100 38 w) a b r u v ↔ cmX I a b r u v := by
  unfold cmX hov
  simp only [w_cbV hc, ro_ne (I := I) (b := 100) (i := 38) (g := w) (b' := 100) (i' := 20) (by decide), ro_ne (I := I) (b := 100) (i := 38) (g := w) (b' := 100) (i' := 23) (by decide)]
/-- where the moves of a cue begin -/
def baR (P ms r : Nat → Int32) (c k : Nat) : Nat → Int32 := fun j => if 4 * c ≤ j ∧ j < 4 * c + k then ms (nn (P (j - 4 * c))) else r j
theorem baR_0 {P ms r : Nat → Int32} {c : Nat} : baR P ms r c 0 = r := by
  funext j
  rw [baR, if_neg (by omega)]
theorem baR_s {P ms r : Nat → Int32} {c k : Nat} : uf (baR P ms r c k) (4 * c + k) (ms (nn (P k))) = baR P ms r c (k + 1) := by
  funext j
  unfold uf baR
  by_cases h : j = 4 * c + k
  · subst h
    have : 4 * c + k - 4 * c = k := by omega
    rw [if_pos rfl, if_pos (by omega), this]
  · rw [if_neg h]
    by_cases q : 4 * c ≤ j ∧ j < 4 * c + k
    · rw [if_pos q, if_pos (by omega)]
    · rw [if_neg q, if_neg (by omega)]
def baI (I : Nat → Nat → Nat → Int32) (c : Nat) : Nat → Nat → Nat → Int32 := ro I 100 35 (baR (mP I c 0) (I 100 23) (I 100 35) c (mN I c))
theorem baI_o {c k : Nat} (h : ¬ k = 35) : baI I c 100 k = I 100 k := ro_ne (by omega)
theorem baI_b {c b : Nat} (h : ¬ b = 100) : baI I c b = I b := ro_b h
theorem baI_P {c d f m : Nat} (hf : f < 5) : mP (baI I c) d f m = mP I d f m := by
  show baI I c 100 (30 + f) _ = _
  rw [baI_o (by omega)]
  rfl
theorem baI_N {c d : Nat} : mN (baI I c) d = mN I d := by
  unfold mN
  rw [baI_o (by decide)]
theorem baI_ok {c d : Nat} (h : mpOk I d) : mpOk (baI I c) d := by
  refine ⟨by rw [baI_o (by decide)]; exact h.1, fun m hm => ?_⟩
  rw [baI_N] at hm
  rw [baI_P (by decide), baI_P (by decide), baI_P (by decide)]
  exact h.2 m hm
theorem d_arm {c : Int32} {C : Nat → Nat → Prop} (hc : ∀ c, c < 8 → mpOk I c) (hm : ∀ p, p < 6 → pl (I 100 23 p)) (hg : ∀ c, c < 8 → ∀ m, m < mN I c → pl (mP I c 1 m))
    (hC : ok c 8 → marC I (nn c) → ∀ a b, a < b → b < 6 → ¬ I 101 3 a = 0 → ¬ I 101 3 b = 0 → bsd I a b → ∀ u v, farV (baI (thI I 0) (nn c)) (Int32.ofNat a) c u → farV (baI (thI I 0) (nn c)) (Int32.ofNat b) c v → (cmX (baI (thI I 0) (nn c)) (Int32.ofNat a) (Int32.ofNat b) c u v ↔ C a b))
    (hC0 : ∀ a b, a < b → b < 6 → C a b → ¬ I 101 3 a = 0 ∧ ¬ I 101 3 b = 0 ∧ bsd I a b)
    (h0 : ¬ ok c 8 → Q (.inl (some (.inl 0))) (sS L (thI I 1) J)) (h2 : ok c 8 → ¬ marC I (nn c) → Q (.inl (some (.inl 0))) (sS L (thI I 2) J))
    (h3 : ok c 8 → marC I (nn c) → ∀ a b, a < b → b < 6 → C a b → (∀ a' b', a' < b' → b' < 6 → lex a' b' a b → ¬ C a' b') → ∀ w, Q (.inl (some (.inl (10 * Int32.ofNat a + Int32.ofNat b)))) (sS L (ro (baI (thI I 0) (nn c)) 100 38 w) J))
    (hq : ok c 8 → marC I (nn c) → (∀ a b, a < b → b < 6 → ¬ C a b) → ∀ w, Q (.inl (some (.inl (-1)))) (sS L (rf_u3 (ro (baI (thI I 0) (nn c)) 100 38 w) 100 27 (nn c) 1) J)) : rf_C l 90 [.inr (.inr (some (8, 0))), .inl c] (sS L I J) Q := by
  apply rf_C.ofW
  have out : ∀ x, ¬ x ≤ 0 → Q (.inl (some (.inl 0))) (sS L (thI I x) J) → rf_W l 90 30 [some (.inr (.inr (some (8, 0)))), some (.inl c), none, none] [] (sS L (thI I x) J) 0 0 Q := fun x hx q => rf_goW rf_mo_90 rf_T_90 30 [] (And.intro (fun (e : thI I x 8 0 0 ≤ 0) => absurd (thI_0 (I := I) (x := x) ▸ e) hx) (fun _ => q))
  refine rf_goW rf_mo_90 rf_T_90 30 [30] (And.intro ⟨by decide, by decide⟩ (d_isNumber (n := 8) (by decide) (fun a1 => br_ne1 ?_) (fun a1 => br_ne0 (out 1 (by decide) (h0 a1)))))
  obtain ⟨k, hk⟩ : ∃ k, k = nn c := ⟨_, rfl⟩
  have k8 : k < 8 := by rw [hk]; exact a1.2
  have ec : c = Int32.ofNat k := by rw [hk]; exact (nn_of a1.1).symm
  rw [← hk] at hC h2 h3 hq
  subst ec
  have i8 := nt_ix (n := 8) k8 (by decide)
  obtain ⟨B, hB⟩ : ∃ B, B = baI (thI I 0) k := ⟨_, rfl⟩
  rw [← hB] at hC h3 hq
  have t100 : thI I 0 100 = I 100 := thI_b (by decide)
  have t101 : thI I 0 101 = I 101 := thI_b (by decide)
  have tP : ∀ d, mP (thI I 0) d = mP I d := fun d => by
    funext f m
    unfold mP
    rw [t100]
  have tN : ∀ d, mN (thI I 0) d = mN I d := fun d => by
    unfold mN
    rw [t100]
  have tok : ∀ d, d < 8 → mpOk (thI I 0) d := fun d hd => by
    unfold mpOk
    rw [tP, tN, t100]
    exact hc d hd
  have Bok : ∀ d, d < 8 → mpOk B d := fun d hd => by rw [hB]; exact baI_ok (tok d hd)
  have Bm : ∀ p, p < 6 → pl (B 100 23 p) := fun p hp => by rw [hB, baI_o (by decide), t100]; exact hm p hp
  have Bg : ∀ d, d < 8 → ∀ m, m < mN B d → pl (mP B d 1 m) := fun d hd m hm' => by
    rw [hB, baI_N, tN] at hm'
    rw [hB, baI_P (by decide), tP]
    exact hg d hd m hm'
  have B3 : B 101 = I 101 := by rw [hB, baI_b (by decide), t101]
  have Bb : ∀ a b, bsd B a b ↔ bsd I a b := fun a b => by
    unfold bsd
    rw [hB, baI_o (by decide), baI_o (by decide), baI_o (by decide), baI_o (by decide), t100]
  refine And.intro ⟨by decide, by decide⟩ (d_mayArm k8 (fun d hd => (hc d hd).1) (fun j hj => ((hc k k8).2 j hj).1) (fun a2 => br_eq1 ?_) (fun a2 => br_eq0 (out 2 (by decide) (h2 a1 a2))))
  -- the pairs
  have outer : ∀ a, a ≤ 6 → (∀ a' b', a' < a → a' < b' → b' < 6 → ¬ C a' b') → ∀ w, rf_W l 90 84 [some (.inr (.inr (some (8, 0)))), some (.inl (Int32.ofNat k)), some (.inl (Int32.ofNat a)), none] [] (sS L (ro B 100 38 w) J) 0 0 Q := by
    refine lp_dn ?_ ?_
    · intro hn w
      refine rf_goW rf_mo_90 rf_T_90 30 [84] (And.intro (fun _ => And.intro i8 ?_) (fun hd => absurd (Int32.le_refl _) hd))
      rw [nt_cl (by omega)]
      exact hq a1 a2 (fun a b h1 h2 => hn a b (by omega) h1 h2) w
    · intro a ha ih hn w
      rw [← nt_succ a] at ih
      have i6 := nt_ix (n := 6) ha (by decide)
      have inner : ∀ b, b ≤ 6 → a < b → (∀ b', a < b' → b' < b → ¬ C a b') → ∀ w, rf_W l 90 94 [some (.inr (.inr (some (8, 0)))), some (.inl (Int32.ofNat k)), some (.inl (Int32.ofNat a)), some (.inl (Int32.ofNat b))] [] (sS L (ro B 100 38 w) J) 0 0 Q := by
        refine lp_dn ?_ ?_
        · intro _ hb w
          refine rf_goW rf_mo_90 rf_T_90 30 [84, 94] (And.intro (fun _ => fgt (ih (fun a' b' q1 q2 q3 => ?_) w) (by repeat (first | exact True.intro | refine And.intro rfl ?_))) (fun hd => absurd (Int32.le_refl _) hd))
          by_cases ea : a' = a
          · subst ea; exact hb b' q2 q3
          · exact hn a' b' (by omega) q2 q3
        · intro b hb ihb hab hnb w
          rw [← nt_succ b] at ihb
          have j6 := nt_ix (n := 6) hb (by decide)
          have e101 : ro B 100 38 w 101 = I 101 := by rw [ro_b (by decide), B3]
          have no : ¬ C a b → ∀ w, rf_W l 90 94 [some (.inr (.inr (some (8, 0)))), some (.inl (Int32.ofNat k)), some (.inl (Int32.ofNat a)), some (.inl (Int32.ofNat b + 1))] [] (sS L (ro B 100 38 w) J) 0 0 Q := by
            intro q w'
            refine ihb (by omega) (fun b' q1 q2 => ?_) w'
            by_cases eb : b' = b
            · rw [eb]; exact q
            · exact hnb b' q1 (by omega)
          refine rf_goW rf_mo_90 rf_T_90 60 [94] (And.intro (fun hd => absurd ((nt_le (i := 6) (by omega) (by omega)).mp hd) (by omega)) (fun _ => And.intro i6 ?_))
          rw [nt_cl (by omega)]
          refine And.intro (fun (e : ro B 100 38 w 101 3 a = 0) => no (fun q => (hC0 a b hab hb q).1 (by rw [e101] at e; exact e)) w) (fun (e : ¬ ro B 100 38 w 101 3 a = 0) => And.intro j6 ?_)
          rw [nt_cl (by omega)]
          refine And.intro (fun (f : ro B 100 38 w 101 3 b = 0) => no (fun q => (hC0 a b hab hb q).2.1 (by rw [e101] at f; exact f)) w) (fun (f : ¬ ro B 100 38 w 101 3 b = 0) => ?_)
          rw [e101] at e f
          have na : nn (Int32.ofNat a) = a := nn_nat (by omega)
          have nb : nn (Int32.ofNat b) = b := nn_nat (by omega)
          refine And.intro ⟨by decide, by decide⟩ (d_couldMeet (I := ro B 100 38 w) i6 j6 (fun d hd => w_ok (Bok d hd)) ?_ ?_ (fun u v hu hv hbs hx w' => br_eq1 ?_) (fun hbs => br_eq0 (no (fun q => hbs ?_) w)) (fun u v hu hv hbs hx w' => br_eq0 ?_))
          · rw [ro_ne (by decide)]; exact Bm
          · intro d hd m hm'
            rw [w_N] at hm'
            rw [w_P (by decide)]
            exact Bg d hd m hm'
          · rw [na, nb, w_bsd, Bb] at hbs
            rw [w_far] at hu hv
            rw [w_cmX Bok] at hx
            rw [ro_ro]
            exact h3 a1 a2 a b hab hb ((hC a1 a2 a b hab hb e f hbs u v hu hv).mp hx) (fun a' b' q1 q2 q3 => q3.elim (fun q => hn a' b' q q1 q2) (fun q => by
              obtain ⟨rfl, q⟩ := q
              exact hnb b' q1 q)) w'
          · rw [na, nb, w_bsd, Bb]
            exact (hC0 a b hab hb q).2.2
          · rw [na, nb, w_bsd, Bb] at hbs
            rw [w_far] at hu hv
            rw [w_cmX Bok] at hx
            rw [ro_ro]
            exact no (fun q => hx ((hC a1 a2 a b hab hb e f hbs u v hu hv).mpr q)) w'
      have st := inner (a + 1) (by omega) (by omega) (fun b' q1 q2 => absurd q2 (by omega)) w
      rw [← nt_succ a] at st
      refine rf_goW rf_mo_90 rf_T_90 30 [94] (And.intro (fun hd => absurd ((nt_le (i := 6) (by omega) (by omega)).mp hd) (by omega)) (fun _ => ?_))
      exact fgt st (by repeat (first | exact True.intro | refine And.intro rfl ?_))
  have st := outer 0 (by omega) (fun a' b' q => absurd q (by omega)) (B 100 38)
  rw [ro_id, hB] at st
  -- where the moves begin
  obtain ⟨hn, hP⟩ := hc k k8
  have h5 : nn (I 100 29 k) < 5 := hn.2
  have key : ∀ m, m ≤ mN I k → rf_W l 90 41 [some (.inr (.inr (some (8, 0)))), some (.inl (Int32.ofNat k)), some (.inl (Int32.ofNat m)), none] [] (sS L (ro (thI I 0) 100 35 (baR (mP I k 0) (I 100 23) (I 100 35) k m)) J) 0 0 Q := by
    refine lp_dn ?_ ?_
    · have st' : rf_W l 90 84 [some (.inr (.inr (some (8, 0)))), some (.inl (Int32.ofNat k)), some (.inl (Int32.ofNat 0)), none] [] (sS L (ro (thI I 0) 100 35 (baR (mP I k 0) (I 100 23) (I 100 35) k (mN I k))) J) 0 0 Q := by
        rw [baI, tP, tN, t100] at st
        exact st
      refine rf_goW rf_mo_90 rf_T_90 30 [41, 84] (And.intro i8 ?_)
      rw [nt_cl (by omega)]
      refine And.intro (fun _ => fgt st' (by repeat (first | exact True.intro | refine And.intro rfl ?_))) (fun (hd : ¬ ro (thI I 0) 100 35 (baR (mP I k 0) (I 100 23) (I 100 35) k (mN I k)) 100 29 k ≤ Int32.ofNat (mN I k)) => absurd ?_ hd)
      rw [ro_ne (by decide), t100]
      exact (nn_le hn.1 (by show nn _ < _; omega)).mpr (Nat.le_refl _)
    · intro m hm' ih
      have hm4 : m < 4 := by have : m < nn (I 100 29 k) := hm'
                             omega
      rw [← nt_succ m] at ih
      obtain ⟨K, hK⟩ : ∃ K, K = ro (thI I 0) 100 35 (baR (mP I k 0) (I 100 23) (I 100 35) k m) := ⟨_, rfl⟩
      rw [← hK]
      have e29 : K 100 29 = I 100 29 := by rw [hK, ro_ne (by decide), t100]
      have e30 : K 100 30 (4 * k + m) = mP I k 0 m := by rw [hK, ro_ne (by decide), t100]; rfl
      have e23 : K 100 23 = I 100 23 := by rw [hK, ro_ne (by decide), t100]
      refine rf_goW rf_mo_90 rf_T_90 30 [41] (And.intro i8 ?_)
      rw [nt_cl (by omega)]
      refine And.intro (fun (hd : K 100 29 k ≤ Int32.ofNat m) => absurd hd ?_) (fun _ => And.intro (ix32 k8 hm4) ?_)
      · rw [e29]
        exact fun hd => absurd ((nn_le hn.1 (by omega)).mp hd) (by have : m < nn (I 100 29 k) := hm'
                                                                   omega)
      rw [nn4 k8 hm4]
      have op : ok (K 100 30 (4 * k + m)) 6 := by rw [e30]; exact (hP m hm').1
      refine And.intro op (And.intro (ix32 k8 hm4) ?_)
      rw [nn4 k8 hm4]
      have es : rf_u3 K 100 35 (4 * k + m) (K 100 23 (nn (K 100 30 (4 * k + m)))) = ro (thI I 0) 100 35 (baR (mP I k 0) (I 100 23) (I 100 35) k (m + 1)) := by
        rw [e23, e30, u3_ro, hK, ro_self, ro_ro, baR_s]
      rw [← es] at ih
      exact ih
  have k0 := key 0 (by omega)
  have e0 : ro (thI I 0) 100 35 (baR (mP I k 0) (I 100 23) (I 100 35) k 0) = thI I 0 := by
    rw [baR_0, ← t100, ro_id]
  rw [e0] at k0
  have g30 : rf_W l 90 30 [some (.inr (.inr (some (8, 0)))), some (.inl (Int32.ofNat k)), none, none] [] (sS L (thI I 0) J) 0 0 Q := rf_goW rf_mo_90 rf_T_90 30 [41] (And.intro (fun _ => k0) (fun (e : ¬ thI I 0 8 0 0 ≤ 0) => absurd (show thI I 0 8 0 0 ≤ 0 by rw [thI_0]; decide) e))
  exact g30
end NC
