/-! FlyingDeskModel's own constructor -/
def cM0 : Nat → Nat := cad (ctC 8) 8
def cM1 : Nat → Nat := cad cM0 100
def cM2 : Nat → Nat := cad cM1 100
def cM3 : Nat → Nat := cad cM2 100
def cM4 : Nat → Nat := cad cM3 100
def cM5 : Nat → Nat := cad cM4 100
def cM6 : Nat → Nat := cad cM5 100
def cM7 : Nat → Nat := cad cM6 100
def cM8 : Nat → Nat := cad cM7 101
def cM9 : Nat → Nat := cad cM8 101
def cM10 : Nat → Nat := cad cM9 101
def cM11 : Nat → Nat := cad cM10 100
def cM12 : Nat → Nat := cad cM11 100
def cM13 : Nat → Nat := cad cM12 100
def cM14 : Nat → Nat := cad cM13 100
def cM15 : Nat → Nat := cad cM14 100
def cM16 : Nat → Nat := cad cM15 100
def cM17 : Nat → Nat := cad cM16 100
def cM18 : Nat → Nat := cad cM17 100
def cM19 : Nat → Nat := cad cM18 100
def cM20 : Nat → Nat := cad cM19 100
def cM21 : Nat → Nat := cad cM20 100
def cM22 : Nat → Nat := cad cM21 100
def cM23 : Nat → Nat := cad cM22 100
def cM24 : Nat → Nat := cad cM23 100
def cM25 : Nat → Nat := cad cM24 100
def cM26 : Nat → Nat := cad cM25 100
def cM27 : Nat → Nat := cad cM26 100
def cM28 : Nat → Nat := cad cM27 100
def cM29 : Nat → Nat := cad cM28 100
def cM30 : Nat → Nat := cad cM29 101
def cM31 : Nat → Nat := cad cM30 100
def cM32 : Nat → Nat := cad cM31 100
def cM33 : Nat → Nat := cad cM32 100
def cM34 : Nat → Nat := cad cM33 100
def Mf (a b d e f : Nat) : Nat → Nat → Nat := rf_u2 (rf_u2 (rf_u2 (rf_u2 (rf_u2 KK 100 10 a) 100 16 b) 100 18 d) 100 19 e) 100 20 f
theorem Mf_10 {a b d e f x : Nat} : rf_u2 (Mf a b d e f) 100 10 x = Mf x b d e f := by
  funext b' i'
  by_cases q : b' = 100 ∧ i' = 10
  · obtain ⟨rfl, rfl⟩ := q
    rfl
  · rw [u2_ne q]
    simp only [Mf, rf_u2, if_neg q]
theorem Mf_16 {a b d e f x : Nat} : rf_u2 (Mf a b d e f) 100 16 x = Mf a x d e f := by
  funext b' i'
  by_cases q : b' = 100 ∧ i' = 16
  · obtain ⟨rfl, rfl⟩ := q
    rfl
  · rw [u2_ne q]
    simp only [Mf, rf_u2, if_neg q]
theorem Mf_18 {a b d e f x : Nat} : rf_u2 (Mf a b d e f) 100 18 x = Mf a b x e f := by
  funext b' i'
  by_cases q : b' = 100 ∧ i' = 18
  · obtain ⟨rfl, rfl⟩ := q
    rfl
  · rw [u2_ne q]
    simp only [Mf, rf_u2, if_neg q]
theorem Mf_19 {a b d e f x : Nat} : rf_u2 (Mf a b d e f) 100 19 x = Mf a b d x f := by
  funext b' i'
  by_cases q : b' = 100 ∧ i' = 19
  · obtain ⟨rfl, rfl⟩ := q
    rfl
  · rw [u2_ne q]
    simp only [Mf, rf_u2, if_neg q]
theorem Mf_20 {a b d e f x : Nat} : rf_u2 (Mf a b d e f) 100 20 x = Mf a b d e x := by
  funext b' i'
  by_cases q : b' = 100 ∧ i' = 20
  · obtain ⟨rfl, rfl⟩ := q
    rfl
  · rw [u2_ne q]
    simp only [Mf, rf_u2, if_neg q]
theorem Mf_K : Mf 1000 1000 1000 1000 1000 = KK := by
  unfold Mf
  have e : ∀ b, rf_u2 KK 100 b 1000 = KK := fun b => u2_id rfl
  rw [e, e, e, e, e]
theorem p8_no (j : Nat) (h : 37 ≤ j) : p0 8 0 j = none := by
  show (rf_nth sh_p8 j).getD none = none
  rw [rf_nth_eq, List.getElem?_eq_none h]
  rfl
theorem i0_m1 {i j : Nat} (h : i = 10 ∨ i = 16) (hj : j < 12) : i0 100 i j = -1 := by
  unfold i0
  rw [if_neg (by decide), if_neg (by decide), if_neg (by decide), if_pos rfl, if_pos ⟨h, hj⟩]
theorem i0_m1z {i j : Nat} (h : i = 10 ∨ i = 16) (hj : 12 ≤ j) : i0 100 i j = 0 := by
  unfold i0
  rw [if_neg (by decide), if_neg (by decide), if_neg (by decide), if_pos rfl, if_neg (by omega), if_neg (by omega)]
theorem i0_p1 {i j : Nat} (h : 18 ≤ i ∧ i ≤ 20) (hj : j < 6) : i0 100 i j = 1 := by
  unfold i0
  rw [if_neg (by decide), if_neg (by decide), if_neg (by decide), if_pos rfl, if_neg (by omega), if_pos ⟨h, hj⟩]
theorem i0_p1z {i j : Nat} (h : 18 ≤ i ∧ i ≤ 20) (hj : 6 ≤ j) : i0 100 i j = 0 := by
  unfold i0
  rw [if_neg (by decide), if_neg (by decide), if_neg (by decide), if_pos rfl, if_neg (by omega), if_neg (by omega)]
section CE
variable {l : Launch} {L : Nat} {Q : rf_O → rf_S → Prop} {σ : rf_S}
theorem n_model (h : Bd L σ (ctC 8) KK KK) (hq : ∀ σ', Bd L σ' cM34 KK KK → Q (.inl none) σ') : rf_C l 8 [.inr (.inr (some (8, σ.1 8)))] (rf_newK σ 8 37) Q := by
  have hb := B_ref (b := 8) (k := 37) h rfl (fun _ => rfl)
  rw [h.1 8]
  apply rf_C.ofW
  have e8 : ctC 8 8 = 0 := rfl
  rw [e8] at hb ⊢
  have v8 : 0 < cM34 8 := by decide +kernel
  have gP : ∀ σ' a b d e f j r, Bd L σ' cM34 (rf_u2 KK 8 0 37) (Mf a b d e f) → j < 37 → p0 8 0 j = r → σ'.2.2.2.1 8 0 j = r := fun σ' a b d e f j r h' hj hr => (B_P h' v8 (n := 37) u2_at hj).trans hr
  have gl : ∀ σ' a b d e f i, Bd L σ' cM34 (rf_u2 KK 8 0 37) (Mf a b d e f) → i < 40 → σ'.2.1 100 i = fl0 L 100 i := fun σ' a b d e f i h' hi => B_l h' (Nat.lt_of_lt_of_le hi (by decide +kernel))
  have v100 : ∀ i, i < 40 → i < cM34 100 := fun i hi => Nat.lt_of_lt_of_le hi (by decide +kernel)
  have lp2 : ∀ m i σ', i + m = 6 → Bd L σ' cM34 (rf_u2 KK 8 0 37) (Mf 12 12 i i i) → rf_W l 8 305 [some (.inr (.inr (some (8, 0)))), some (.inl (Int32.ofNat i))] [] σ' 34 1363 Q := by
    intro m
    induction m with
    | zero =>
      intro i σ' hi h'
      obtain rfl : i = 6 := by omega
      have w := B_fM (b := 100) (i := 10) h' (fun j hj => i0_m1z (by decide) hj) (fun j hj => i0_m1z (by decide) (by omega))
      rw [Mf_10] at w
      have w := B_fM (b := 100) (i := 16) w (fun j hj => i0_m1z (by decide) hj) (fun j hj => i0_m1z (by decide) (by omega))
      rw [Mf_16] at w
      have w := B_fM (b := 100) (i := 18) w (fun j hj => i0_p1z (by decide) hj) (fun j hj => i0_p1z (by decide) (by omega))
      rw [Mf_18] at w
      have w := B_fM (b := 100) (i := 19) w (fun j hj => i0_p1z (by decide) hj) (fun j hj => i0_p1z (by decide) (by omega))
      rw [Mf_19] at w
      have w := B_fM (b := 100) (i := 20) w (fun j hj => i0_p1z (by decide) hj) (fun j hj => i0_p1z (by decide) (by omega))
      rw [Mf_20, Mf_K] at w
      have w := B_fN (b := 8) (i := 0) w (fun j hj => p8_no j (by rw [u2_at] at hj; exact hj)) (fun j hj => p8_no j (by omega))
      rw [u2_u2, show rf_u2 KK 8 0 1000 = KK from u2_id rfl] at w
      exact rf_goW rf_mo_8 rf_T_8 40 [] (And.intro (fun _ => hq _ w) (fun n => absurd (by decide) n))
    | succ m ih =>
      intro i σ' hi h'
      have lt : i < 6 := by omega
      have t3 : ∀ σ', Bd L σ' cM34 (rf_u2 KK 8 0 37) (Mf 12 12 (i + 1) (i + 1) (i + 1)) → rf_W l 8 332 [some (.inr (.inr (some (8, 0)))), some (.inl (Int32.ofNat i))] [] σ' 34 1363 Q := fun σ2 h2 => by
        have q := ih (i + 1) _ (by omega) h2
        rw [← nt_succ] at q
        exact rf_goW rf_mo_8 rf_T_8 40 [305] q
      have t2 : ∀ σ', Bd L σ' cM34 (rf_u2 KK 8 0 37) (Mf 12 12 (i + 1) (i + 1) i) → rf_W l 8 325 [some (.inr (.inr (some (8, 0)))), some (.inl (Int32.ofNat i))] [] σ' 34 1363 Q := fun σ2 h2 => by
        have st : ∀ r, r = some (100, 20) → rf_W l 8 329 [some (.inr (.inr (some (8, 0)))), some (.inl (Int32.ofNat i))] [.inr (.inr r)] σ2 34 1363 Q := by
          rintro _ rfl
          have g := gl σ2 _ _ _ _ _ 20 h2 (by decide)
          refine rf_goW rf_mo_8 rf_T_8 40 [332] (And.intro (nt_ix (n := σ2.2.1 100 20) (by rw [g]; exact lt) (by rw [g]; show 6 ≤ _; decide)) (t3 _ ?_))
          rw [nt_cl (by omega)]
          have w := B_putI (b := 100) (i := 20) (j := i) (x := 1) h2 (v100 20 (by decide)) rfl (i0_p1 (by decide) lt)
          rw [Mf_20] at w
          exact w
        exact rf_goW rf_mo_8 rf_T_8 40 [329] (st _ (gP σ2 _ _ _ _ _ 14 _ h2 (by decide) rfl))
      have t1 : ∀ σ', Bd L σ' cM34 (rf_u2 KK 8 0 37) (Mf 12 12 (i + 1) i i) → rf_W l 8 318 [some (.inr (.inr (some (8, 0)))), some (.inl (Int32.ofNat i))] [] σ' 34 1363 Q := fun σ2 h2 => by
        have st : ∀ r, r = some (100, 19) → rf_W l 8 322 [some (.inr (.inr (some (8, 0)))), some (.inl (Int32.ofNat i))] [.inr (.inr r)] σ2 34 1363 Q := by
          rintro _ rfl
          have g := gl σ2 _ _ _ _ _ 19 h2 (by decide)
          refine rf_goW rf_mo_8 rf_T_8 40 [325] (And.intro (nt_ix (n := σ2.2.1 100 19) (by rw [g]; exact lt) (by rw [g]; show 6 ≤ _; decide)) (t2 _ ?_))
          rw [nt_cl (by omega)]
          have w := B_putI (b := 100) (i := 19) (j := i) (x := 1) h2 (v100 19 (by decide)) rfl (i0_p1 (by decide) lt)
          rw [Mf_19] at w
          exact w
        exact rf_goW rf_mo_8 rf_T_8 40 [322] (st _ (gP σ2 _ _ _ _ _ 13 _ h2 (by decide) rfl))
      have t0 : ∀ σ', Bd L σ' cM34 (rf_u2 KK 8 0 37) (Mf 12 12 i i i) → ∀ r, r = some (100, 18) → rf_W l 8 315 [some (.inr (.inr (some (8, 0)))), some (.inl (Int32.ofNat i))] [.inr (.inr r)] σ' 34 1363 Q := fun σ2 h2 => by
        have st : ∀ r, r = some (100, 18) → rf_W l 8 315 [some (.inr (.inr (some (8, 0)))), some (.inl (Int32.ofNat i))] [.inr (.inr r)] σ2 34 1363 Q := by
          rintro _ rfl
          have g := gl σ2 _ _ _ _ _ 18 h2 (by decide)
          refine rf_goW rf_mo_8 rf_T_8 40 [318] (And.intro (nt_ix (n := σ2.2.1 100 18) (by rw [g]; exact lt) (by rw [g]; show 6 ≤ _; decide)) (t1 _ ?_))
          rw [nt_cl (by omega)]
          have w := B_putI (b := 100) (i := 18) (j := i) (x := 1) h2 (v100 18 (by decide)) rfl (i0_p1 (by decide) lt)
          rw [Mf_18] at w
          exact w
        exact st
      refine rf_goW rf_mo_8 rf_T_8 40 [315] (And.intro (fun n => ?_) (fun _ => ?_))
      · exact absurd ((nt_le (i := 6) (n := i) (by decide) (by omega)).mp n) (by omega)
      · exact t0 σ' h' _ (gP σ' _ _ _ _ _ 12 _ h' (by decide) rfl)
  have lp1 : ∀ m i σ', i + m = 12 → Bd L σ' cM34 (rf_u2 KK 8 0 37) (Mf i i 0 0 0) → rf_W l 8 277 [some (.inr (.inr (some (8, 0)))), some (.inl (Int32.ofNat i))] [] σ' 34 1363 Q := by
    intro m
    induction m with
    | zero =>
      intro i σ' hi h'
      obtain rfl : i = 12 := by omega
      exact rf_goW rf_mo_8 rf_T_8 40 [305] (And.intro (fun _ => lp2 6 0 _ (by omega) h') (fun n => absurd (by decide) n))
    | succ m ih =>
      intro i σ' hi h'
      have lt : i < 12 := by omega
      have t2 : ∀ σ', Bd L σ' cM34 (rf_u2 KK 8 0 37) (Mf (i + 1) (i + 1) 0 0 0) → rf_W l 8 297 [some (.inr (.inr (some (8, 0)))), some (.inl (Int32.ofNat i))] [] σ' 34 1363 Q := fun σ2 h2 => by
        have q := ih (i + 1) _ (by omega) h2
        rw [← nt_succ] at q
        exact rf_goW rf_mo_8 rf_T_8 40 [277] q
      have t1 : ∀ σ', Bd L σ' cM34 (rf_u2 KK 8 0 37) (Mf (i + 1) i 0 0 0) → rf_W l 8 290 [some (.inr (.inr (some (8, 0)))), some (.inl (Int32.ofNat i))] [] σ' 34 1363 Q := fun σ2 h2 => by
        have st : ∀ r, r = some (100, 16) → rf_W l 8 294 [some (.inr (.inr (some (8, 0)))), some (.inl (Int32.ofNat i))] [.inr (.inr r)] σ2 34 1363 Q := by
          rintro _ rfl
          have g := gl σ2 _ _ _ _ _ 16 h2 (by decide)
          refine rf_goW rf_mo_8 rf_T_8 40 [297] (And.intro (nt_ix (n := σ2.2.1 100 16) (by rw [g]; exact lt) (by rw [g]; show 12 ≤ _; decide)) (t2 _ ?_))
          rw [nt_cl (by omega)]
          have w := B_putI (b := 100) (i := 16) (j := i) (x := -1) h2 (v100 16 (by decide)) rfl (i0_m1 (by decide) lt)
          rw [Mf_16] at w
          exact w
        exact rf_goW rf_mo_8 rf_T_8 40 [294] (st _ (gP σ2 _ _ _ _ _ 7 _ h2 (by decide) rfl))
      have t0 : ∀ σ', Bd L σ' cM34 (rf_u2 KK 8 0 37) (Mf i i 0 0 0) → ∀ r, r = some (100, 10) → rf_W l 8 287 [some (.inr (.inr (some (8, 0)))), some (.inl (Int32.ofNat i))] [.inr (.inr r)] σ' 34 1363 Q := fun σ2 h2 => by
        have st : ∀ r, r = some (100, 10) → rf_W l 8 287 [some (.inr (.inr (some (8, 0)))), some (.inl (Int32.ofNat i))] [.inr (.inr r)] σ2 34 1363 Q := by
          rintro _ rfl
          have g := gl σ2 _ _ _ _ _ 10 h2 (by decide)
          refine rf_goW rf_mo_8 rf_T_8 40 [290] (And.intro (nt_ix (n := σ2.2.1 100 10) (by rw [g]; exact lt) (by rw [g]; show 12 ≤ _; decide)) (t1 _ ?_))
          rw [nt_cl (by omega)]
          have w := B_putI (b := 100) (i := 10) (j := i) (x := -1) h2 (v100 10 (by decide)) rfl (i0_m1 (by decide) lt)
          rw [Mf_10] at w
          exact w
        exact st
      refine rf_goW rf_mo_8 rf_T_8 40 [287] (And.intro (fun n => ?_) (fun _ => ?_))
      · exact absurd ((nt_le (i := 12) (n := i) (by decide) (by omega)).mp n) (by omega)
      · exact t0 σ' h' _ (gP σ' _ _ _ _ _ 1 _ h' (by decide) rfl)
  have s34 : ∀ σ', Bd L σ' cM34 (rf_u2 KK 8 0 37) (Mf 0 0 0 0 0) → rf_W l 8 275 [some (.inr (.inr (some (8, 0)))), none] [] σ' 34 1363 Q := fun σ' h' => rf_goW rf_mo_8 rf_T_8 40 [277] (lp1 12 0 _ (by omega) h')
  have s33 : ∀ σ', Bd L σ' cM33 (rf_u2 KK 8 0 36) (rf_u2 (rf_u2 (rf_u2 (rf_u2 (rf_u2 (KK) 100 10 0) 100 16 0) 100 18 0) 100 19 0) 100 20 0) → rf_W l 8 268 [some (.inr (.inr (some (8, 0)))), none] [] σ' 33 1359 Q := fun σ' h' => by
    refine rf_goW rf_mo_8 rf_T_8 40 [275] (And.intro ⟨by decide, by decide, by decide, by decide⟩ (s34 _ ?_))
    exact B_ao (b := 100) (k := 4) (ab := 8) (ai := 0) (j := 36) h' rfl (fun _ => rfl) (i0_100 (by decide +kernel) (by decide +kernel)) (by decide +kernel) (by decide) (fun _ _ _ => by omega) rfl
  have s32 : ∀ σ', Bd L σ' cM32 (rf_u2 KK 8 0 35) (rf_u2 (rf_u2 (rf_u2 (rf_u2 (rf_u2 (KK) 100 10 0) 100 16 0) 100 18 0) 100 19 0) 100 20 0) → rf_W l 8 260 [some (.inr (.inr (some (8, 0)))), none] [] σ' 32 1353 Q := fun σ' h' => by
    refine rf_goW rf_mo_8 rf_T_8 40 [268] (And.intro ⟨by decide, by decide, by decide, by decide⟩ (s33 _ ?_))
    exact B_ao (b := 100) (k := 6) (ab := 8) (ai := 0) (j := 35) h' rfl (fun _ => rfl) (i0_100 (by decide +kernel) (by decide +kernel)) (by decide +kernel) (by decide) (fun _ _ _ => by omega) rfl
  have s31 : ∀ σ', Bd L σ' cM31 (rf_u2 KK 8 0 34) (rf_u2 (rf_u2 (rf_u2 (rf_u2 (rf_u2 (KK) 100 10 0) 100 16 0) 100 18 0) 100 19 0) 100 20 0) → rf_W l 8 252 [some (.inr (.inr (some (8, 0)))), none] [] σ' 31 1313 Q := fun σ' h' => by
    refine rf_goW rf_mo_8 rf_T_8 40 [260] (And.intro ⟨by decide, by decide, by decide, by decide⟩ (s32 _ ?_))
    exact B_ao (b := 100) (k := 40) (ab := 8) (ai := 0) (j := 34) h' rfl (fun _ => rfl) (i0_100 (by decide +kernel) (by decide +kernel)) (by decide +kernel) (by decide) (fun _ _ _ => by omega) rfl
  have s30 : ∀ σ', Bd L σ' cM30 (rf_u2 KK 8 0 31) (rf_u2 (rf_u2 (rf_u2 (rf_u2 (rf_u2 (KK) 100 10 0) 100 16 0) 100 18 0) 100 19 0) 100 20 0) → rf_W l 8 243 [some (.inr (.inr (some (8, 0)))), none] [] σ' 30 393 Q := fun σ' h' => by
    refine rf_goW rf_mo_8 rf_T_8 40 [252] (And.intro ⟨by decide, by decide, by decide, by decide⟩ (s31 _ ?_))
    exact B_ao (b := 100) (k := 920) (ab := 8) (ai := 0) (j := 33) h' rfl (fun _ => rfl) (i0_100 (by decide +kernel) (by decide +kernel)) (by decide +kernel) (by decide) (fun j' q q' => by
      have : j' = 31 ∨ j' = 32 := by omega
      rcases this with rfl | rfl <;> rfl) rfl
  have s29 : ∀ σ', Bd L σ' cM29 (rf_u2 KK 8 0 30) (rf_u2 (rf_u2 (rf_u2 (rf_u2 (rf_u2 (KK) 100 10 0) 100 16 0) 100 18 0) 100 19 0) 100 20 0) → rf_W l 8 236 [some (.inr (.inr (some (8, 0)))), none] [] σ' 29 390 Q := fun σ' h' => by
    refine rf_goW rf_mo_8 rf_T_8 40 [243] (And.intro ⟨by decide, by decide, by decide, by decide⟩ (s30 _ ?_))
    exact B_ao (b := 101) (k := 3) (ab := 8) (ai := 0) (j := 30) h' rfl (fun _ => rfl) (fun _ => rfl) (by decide +kernel) (by decide) (fun _ _ _ => by omega) rfl
  have s28 : ∀ σ', Bd L σ' cM28 (rf_u2 KK 8 0 29) (rf_u2 (rf_u2 (rf_u2 (rf_u2 (rf_u2 (KK) 100 10 0) 100 16 0) 100 18 0) 100 19 0) 100 20 0) → rf_W l 8 228 [some (.inr (.inr (some (8, 0)))), none] [] σ' 28 358 Q := fun σ' h' => by
    refine rf_goW rf_mo_8 rf_T_8 40 [236] (And.intro ⟨by decide, by decide, by decide, by decide⟩ (s29 _ ?_))
    exact B_ao (b := 100) (k := 32) (ab := 8) (ai := 0) (j := 29) h' rfl (fun _ => rfl) (i0_100 (by decide +kernel) (by decide +kernel)) (by decide +kernel) (by decide) (fun _ _ _ => by omega) rfl
  have s27 : ∀ σ', Bd L σ' cM27 (rf_u2 KK 8 0 28) (rf_u2 (rf_u2 (rf_u2 (rf_u2 (rf_u2 (KK) 100 10 0) 100 16 0) 100 18 0) 100 19 0) 100 20 0) → rf_W l 8 220 [some (.inr (.inr (some (8, 0)))), none] [] σ' 27 326 Q := fun σ' h' => by
    refine rf_goW rf_mo_8 rf_T_8 40 [228] (And.intro ⟨by decide, by decide, by decide, by decide⟩ (s28 _ ?_))
    exact B_ao (b := 100) (k := 32) (ab := 8) (ai := 0) (j := 28) h' rfl (fun _ => rfl) (i0_100 (by decide +kernel) (by decide +kernel)) (by decide +kernel) (by decide) (fun _ _ _ => by omega) rfl
  have s26 : ∀ σ', Bd L σ' cM26 (rf_u2 KK 8 0 27) (rf_u2 (rf_u2 (rf_u2 (rf_u2 (rf_u2 (KK) 100 10 0) 100 16 0) 100 18 0) 100 19 0) 100 20 0) → rf_W l 8 212 [some (.inr (.inr (some (8, 0)))), none] [] σ' 26 294 Q := fun σ' h' => by
    refine rf_goW rf_mo_8 rf_T_8 40 [220] (And.intro ⟨by decide, by decide, by decide, by decide⟩ (s27 _ ?_))
    exact B_ao (b := 100) (k := 32) (ab := 8) (ai := 0) (j := 27) h' rfl (fun _ => rfl) (i0_100 (by decide +kernel) (by decide +kernel)) (by decide +kernel) (by decide) (fun _ _ _ => by omega) rfl
  have s25 : ∀ σ', Bd L σ' cM25 (rf_u2 KK 8 0 26) (rf_u2 (rf_u2 (rf_u2 (rf_u2 (rf_u2 (KK) 100 10 0) 100 16 0) 100 18 0) 100 19 0) 100 20 0) → rf_W l 8 204 [some (.inr (.inr (some (8, 0)))), none] [] σ' 25 262 Q := fun σ' h' => by
    refine rf_goW rf_mo_8 rf_T_8 40 [212] (And.intro ⟨by decide, by decide, by decide, by decide⟩ (s26 _ ?_))
    exact B_ao (b := 100) (k := 32) (ab := 8) (ai := 0) (j := 26) h' rfl (fun _ => rfl) (i0_100 (by decide +kernel) (by decide +kernel)) (by decide +kernel) (by decide) (fun _ _ _ => by omega) rfl
  have s24 : ∀ σ', Bd L σ' cM24 (rf_u2 KK 8 0 25) (rf_u2 (rf_u2 (rf_u2 (rf_u2 (rf_u2 (KK) 100 10 0) 100 16 0) 100 18 0) 100 19 0) 100 20 0) → rf_W l 8 196 [some (.inr (.inr (some (8, 0)))), none] [] σ' 24 230 Q := fun σ' h' => by
    refine rf_goW rf_mo_8 rf_T_8 40 [204] (And.intro ⟨by decide, by decide, by decide, by decide⟩ (s25 _ ?_))
    exact B_ao (b := 100) (k := 32) (ab := 8) (ai := 0) (j := 25) h' rfl (fun _ => rfl) (i0_100 (by decide +kernel) (by decide +kernel)) (by decide +kernel) (by decide) (fun _ _ _ => by omega) rfl
  have s23 : ∀ σ', Bd L σ' cM23 (rf_u2 KK 8 0 24) (rf_u2 (rf_u2 (rf_u2 (rf_u2 (rf_u2 (KK) 100 10 0) 100 16 0) 100 18 0) 100 19 0) 100 20 0) → rf_W l 8 188 [some (.inr (.inr (some (8, 0)))), none] [] σ' 23 198 Q := fun σ' h' => by
    refine rf_goW rf_mo_8 rf_T_8 40 [196] (And.intro ⟨by decide, by decide, by decide, by decide⟩ (s24 _ ?_))
    exact B_ao (b := 100) (k := 32) (ab := 8) (ai := 0) (j := 24) h' rfl (fun _ => rfl) (i0_100 (by decide +kernel) (by decide +kernel)) (by decide +kernel) (by decide) (fun _ _ _ => by omega) rfl
  have s22 : ∀ σ', Bd L σ' cM22 (rf_u2 KK 8 0 23) (rf_u2 (rf_u2 (rf_u2 (rf_u2 (rf_u2 (KK) 100 10 0) 100 16 0) 100 18 0) 100 19 0) 100 20 0) → rf_W l 8 180 [some (.inr (.inr (some (8, 0)))), none] [] σ' 22 190 Q := fun σ' h' => by
    refine rf_goW rf_mo_8 rf_T_8 40 [188] (And.intro ⟨by decide, by decide, by decide, by decide⟩ (s23 _ ?_))
    exact B_ao (b := 100) (k := 8) (ab := 8) (ai := 0) (j := 23) h' rfl (fun _ => rfl) (i0_100 (by decide +kernel) (by decide +kernel)) (by decide +kernel) (by decide) (fun _ _ _ => by omega) rfl
  have s21 : ∀ σ', Bd L σ' cM21 (rf_u2 KK 8 0 22) (rf_u2 (rf_u2 (rf_u2 (rf_u2 (rf_u2 (KK) 100 10 0) 100 16 0) 100 18 0) 100 19 0) 100 20 0) → rf_W l 8 172 [some (.inr (.inr (some (8, 0)))), none] [] σ' 21 182 Q := fun σ' h' => by
    refine rf_goW rf_mo_8 rf_T_8 40 [180] (And.intro ⟨by decide, by decide, by decide, by decide⟩ (s22 _ ?_))
    exact B_ao (b := 100) (k := 8) (ab := 8) (ai := 0) (j := 22) h' rfl (fun _ => rfl) (i0_100 (by decide +kernel) (by decide +kernel)) (by decide +kernel) (by decide) (fun _ _ _ => by omega) rfl
  have s20 : ∀ σ', Bd L σ' cM20 (rf_u2 KK 8 0 21) (rf_u2 (rf_u2 (rf_u2 (rf_u2 (rf_u2 (KK) 100 10 0) 100 16 0) 100 18 0) 100 19 0) 100 20 0) → rf_W l 8 164 [some (.inr (.inr (some (8, 0)))), none] [] σ' 20 174 Q := fun σ' h' => by
    refine rf_goW rf_mo_8 rf_T_8 40 [172] (And.intro ⟨by decide, by decide, by decide, by decide⟩ (s21 _ ?_))
    exact B_ao (b := 100) (k := 8) (ab := 8) (ai := 0) (j := 21) h' rfl (fun _ => rfl) (i0_100 (by decide +kernel) (by decide +kernel)) (by decide +kernel) (by decide) (fun _ _ _ => by omega) rfl
  have s19 : ∀ σ', Bd L σ' cM19 (rf_u2 KK 8 0 20) (rf_u2 (rf_u2 (rf_u2 (rf_u2 (rf_u2 (KK) 100 10 0) 100 16 0) 100 18 0) 100 19 0) 100 20 0) → rf_W l 8 156 [some (.inr (.inr (some (8, 0)))), none] [] σ' 19 168 Q := fun σ' h' => by
    refine rf_goW rf_mo_8 rf_T_8 40 [164] (And.intro ⟨by decide, by decide, by decide, by decide⟩ (s20 _ ?_))
    exact B_ao (b := 100) (k := 6) (ab := 8) (ai := 0) (j := 20) h' rfl (fun _ => rfl) (i0_100 (by decide +kernel) (by decide +kernel)) (by decide +kernel) (by decide) (fun _ _ _ => by omega) rfl
  have s18 : ∀ σ', Bd L σ' cM18 (rf_u2 KK 8 0 19) (rf_u2 (rf_u2 (rf_u2 (rf_u2 (rf_u2 (KK) 100 10 0) 100 16 0) 100 18 0) 100 19 0) 100 20 0) → rf_W l 8 148 [some (.inr (.inr (some (8, 0)))), none] [] σ' 18 162 Q := fun σ' h' => by
    refine rf_goW rf_mo_8 rf_T_8 40 [156] (And.intro ⟨by decide, by decide, by decide, by decide⟩ (s19 _ ?_))
    exact B_ao (b := 100) (k := 6) (ab := 8) (ai := 0) (j := 19) h' rfl (fun _ => rfl) (i0_100 (by decide +kernel) (by decide +kernel)) (by decide +kernel) (by decide) (fun _ _ _ => by omega) rfl
  have s17 : ∀ σ', Bd L σ' cM17 (rf_u2 KK 8 0 18) (rf_u2 (rf_u2 (rf_u2 (rf_u2 (rf_u2 (KK) 100 10 0) 100 16 0) 100 18 0) 100 19 0) 100 20 0) → rf_W l 8 140 [some (.inr (.inr (some (8, 0)))), none] [] σ' 17 156 Q := fun σ' h' => by
    refine rf_goW rf_mo_8 rf_T_8 40 [148] (And.intro ⟨by decide, by decide, by decide, by decide⟩ (s18 _ ?_))
    exact B_ao (b := 100) (k := 6) (ab := 8) (ai := 0) (j := 18) h' rfl (fun _ => rfl) (i0_100 (by decide +kernel) (by decide +kernel)) (by decide +kernel) (by decide) (fun _ _ _ => by omega) rfl
  have s16 : ∀ σ', Bd L σ' cM16 (rf_u2 KK 8 0 17) (rf_u2 (rf_u2 (rf_u2 (rf_u2 (rf_u2 (KK) 100 10 0) 100 16 0) 100 18 0) 100 19 0) 100 20 0) → rf_W l 8 132 [some (.inr (.inr (some (8, 0)))), none] [] σ' 16 150 Q := fun σ' h' => by
    refine rf_goW rf_mo_8 rf_T_8 40 [140] (And.intro ⟨by decide, by decide, by decide, by decide⟩ (s17 _ ?_))
    exact B_ao (b := 100) (k := 6) (ab := 8) (ai := 0) (j := 17) h' rfl (fun _ => rfl) (i0_100 (by decide +kernel) (by decide +kernel)) (by decide +kernel) (by decide) (fun _ _ _ => by omega) rfl
  have s15 : ∀ σ', Bd L σ' cM15 (rf_u2 KK 8 0 16) (rf_u2 (rf_u2 (rf_u2 (rf_u2 (rf_u2 (KK) 100 10 0) 100 16 0) 100 18 0) 100 19 0) 100 20 0) → rf_W l 8 124 [some (.inr (.inr (some (8, 0)))), none] [] σ' 15 144 Q := fun σ' h' => by
    refine rf_goW rf_mo_8 rf_T_8 40 [132] (And.intro ⟨by decide, by decide, by decide, by decide⟩ (s16 _ ?_))
    exact B_ao (b := 100) (k := 6) (ab := 8) (ai := 0) (j := 16) h' rfl (fun _ => rfl) (i0_100 (by decide +kernel) (by decide +kernel)) (by decide +kernel) (by decide) (fun _ _ _ => by omega) rfl
  have s14 : ∀ σ', Bd L σ' cM14 (rf_u2 KK 8 0 15) (rf_u2 (rf_u2 (rf_u2 (rf_u2 (rf_u2 (KK) 100 10 0) 100 16 0) 100 18 0) 100 19 0) 100 20 0) → rf_W l 8 116 [some (.inr (.inr (some (8, 0)))), none] [] σ' 14 138 Q := fun σ' h' => by
    refine rf_goW rf_mo_8 rf_T_8 40 [124] (And.intro ⟨by decide, by decide, by decide, by decide⟩ (s15 _ ?_))
    exact B_ao (b := 100) (k := 6) (ab := 8) (ai := 0) (j := 15) h' rfl (fun _ => rfl) (i0_100 (by decide +kernel) (by decide +kernel)) (by decide +kernel) (by decide) (fun _ _ _ => by omega) rfl
  have s13 : ∀ σ', Bd L σ' cM13 (rf_u2 KK 8 0 14) (rf_u2 (rf_u2 (rf_u2 (rf_u2 (KK) 100 10 0) 100 16 0) 100 18 0) 100 19 0) → rf_W l 8 108 [some (.inr (.inr (some (8, 0)))), none] [] σ' 13 132 Q := fun σ' h' => by
    refine rf_goW rf_mo_8 rf_T_8 40 [116] (And.intro ⟨by decide, by decide, by decide, by decide⟩ (s14 _ ?_))
    exact B_ip (b := 100) (k := 6) (ab := 8) (ai := 0) (j := 14) h' rfl (fun _ => rfl) (by decide +kernel) (by decide) (fun _ _ _ => by omega) rfl
  have s12 : ∀ σ', Bd L σ' cM12 (rf_u2 KK 8 0 13) (rf_u2 (rf_u2 (rf_u2 (KK) 100 10 0) 100 16 0) 100 18 0) → rf_W l 8 100 [some (.inr (.inr (some (8, 0)))), none] [] σ' 12 126 Q := fun σ' h' => by
    refine rf_goW rf_mo_8 rf_T_8 40 [108] (And.intro ⟨by decide, by decide, by decide, by decide⟩ (s13 _ ?_))
    exact B_ip (b := 100) (k := 6) (ab := 8) (ai := 0) (j := 13) h' rfl (fun _ => rfl) (by decide +kernel) (by decide) (fun _ _ _ => by omega) rfl
  have s11 : ∀ σ', Bd L σ' cM11 (rf_u2 KK 8 0 12) (rf_u2 (rf_u2 (KK) 100 10 0) 100 16 0) → rf_W l 8 92 [some (.inr (.inr (some (8, 0)))), none] [] σ' 11 120 Q := fun σ' h' => by
    refine rf_goW rf_mo_8 rf_T_8 40 [100] (And.intro ⟨by decide, by decide, by decide, by decide⟩ (s12 _ ?_))
    exact B_ip (b := 100) (k := 6) (ab := 8) (ai := 0) (j := 12) h' rfl (fun _ => rfl) (by decide +kernel) (by decide) (fun _ _ _ => by omega) rfl
  have s10 : ∀ σ', Bd L σ' cM10 (rf_u2 KK 8 0 11) (rf_u2 (rf_u2 (KK) 100 10 0) 100 16 0) → rf_W l 8 84 [some (.inr (.inr (some (8, 0)))), none] [] σ' 10 114 Q := fun σ' h' => by
    refine rf_goW rf_mo_8 rf_T_8 40 [92] (And.intro ⟨by decide, by decide, by decide, by decide⟩ (s11 _ ?_))
    exact B_ao (b := 100) (k := 6) (ab := 8) (ai := 0) (j := 11) h' rfl (fun _ => rfl) (i0_100 (by decide +kernel) (by decide +kernel)) (by decide +kernel) (by decide) (fun _ _ _ => by omega) rfl
  have s9 : ∀ σ', Bd L σ' cM9 (rf_u2 KK 8 0 10) (rf_u2 (rf_u2 (KK) 100 10 0) 100 16 0) → rf_W l 8 76 [some (.inr (.inr (some (8, 0)))), none] [] σ' 9 108 Q := fun σ' h' => by
    refine rf_goW rf_mo_8 rf_T_8 40 [84] (And.intro ⟨by decide, by decide, by decide, by decide⟩ (s10 _ ?_))
    exact B_ao (b := 101) (k := 6) (ab := 8) (ai := 0) (j := 10) h' rfl (fun _ => rfl) (fun _ => rfl) (by decide +kernel) (by decide) (fun _ _ _ => by omega) rfl
  have s8 : ∀ σ', Bd L σ' cM8 (rf_u2 KK 8 0 9) (rf_u2 (rf_u2 (KK) 100 10 0) 100 16 0) → rf_W l 8 68 [some (.inr (.inr (some (8, 0)))), none] [] σ' 8 96 Q := fun σ' h' => by
    refine rf_goW rf_mo_8 rf_T_8 40 [76] (And.intro ⟨by decide, by decide, by decide, by decide⟩ (s9 _ ?_))
    exact B_ao (b := 101) (k := 12) (ab := 8) (ai := 0) (j := 9) h' rfl (fun _ => rfl) (fun _ => rfl) (by decide +kernel) (by decide) (fun _ _ _ => by omega) rfl
  have s7 : ∀ σ', Bd L σ' cM7 (rf_u2 KK 8 0 8) (rf_u2 (rf_u2 (KK) 100 10 0) 100 16 0) → rf_W l 8 60 [some (.inr (.inr (some (8, 0)))), none] [] σ' 7 84 Q := fun σ' h' => by
    refine rf_goW rf_mo_8 rf_T_8 40 [68] (And.intro ⟨by decide, by decide, by decide, by decide⟩ (s8 _ ?_))
    exact B_ao (b := 101) (k := 12) (ab := 8) (ai := 0) (j := 8) h' rfl (fun _ => rfl) (fun _ => rfl) (by decide +kernel) (by decide) (fun _ _ _ => by omega) rfl
  have s6 : ∀ σ', Bd L σ' cM6 (rf_u2 KK 8 0 7) (rf_u2 (KK) 100 10 0) → rf_W l 8 52 [some (.inr (.inr (some (8, 0)))), none] [] σ' 6 72 Q := fun σ' h' => by
    refine rf_goW rf_mo_8 rf_T_8 40 [60] (And.intro ⟨by decide, by decide, by decide, by decide⟩ (s7 _ ?_))
    exact B_ip (b := 100) (k := 12) (ab := 8) (ai := 0) (j := 7) h' rfl (fun _ => rfl) (by decide +kernel) (by decide) (fun _ _ _ => by omega) rfl
  have s5 : ∀ σ', Bd L σ' cM5 (rf_u2 KK 8 0 6) (rf_u2 (KK) 100 10 0) → rf_W l 8 44 [some (.inr (.inr (some (8, 0)))), none] [] σ' 5 60 Q := fun σ' h' => by
    refine rf_goW rf_mo_8 rf_T_8 40 [52] (And.intro ⟨by decide, by decide, by decide, by decide⟩ (s6 _ ?_))
    exact B_ao (b := 100) (k := 12) (ab := 8) (ai := 0) (j := 6) h' rfl (fun _ => rfl) (i0_100 (by decide +kernel) (by decide +kernel)) (by decide +kernel) (by decide) (fun _ _ _ => by omega) rfl
  have s4 : ∀ σ', Bd L σ' cM4 (rf_u2 KK 8 0 5) (rf_u2 (KK) 100 10 0) → rf_W l 8 36 [some (.inr (.inr (some (8, 0)))), none] [] σ' 4 48 Q := fun σ' h' => by
    refine rf_goW rf_mo_8 rf_T_8 40 [44] (And.intro ⟨by decide, by decide, by decide, by decide⟩ (s5 _ ?_))
    exact B_ao (b := 100) (k := 12) (ab := 8) (ai := 0) (j := 5) h' rfl (fun _ => rfl) (i0_100 (by decide +kernel) (by decide +kernel)) (by decide +kernel) (by decide) (fun _ _ _ => by omega) rfl
  have s3 : ∀ σ', Bd L σ' cM3 (rf_u2 KK 8 0 4) (rf_u2 (KK) 100 10 0) → rf_W l 8 28 [some (.inr (.inr (some (8, 0)))), none] [] σ' 3 36 Q := fun σ' h' => by
    refine rf_goW rf_mo_8 rf_T_8 40 [36] (And.intro ⟨by decide, by decide, by decide, by decide⟩ (s4 _ ?_))
    exact B_ao (b := 100) (k := 12) (ab := 8) (ai := 0) (j := 4) h' rfl (fun _ => rfl) (i0_100 (by decide +kernel) (by decide +kernel)) (by decide +kernel) (by decide) (fun _ _ _ => by omega) rfl
  have s2 : ∀ σ', Bd L σ' cM2 (rf_u2 KK 8 0 3) (rf_u2 (KK) 100 10 0) → rf_W l 8 20 [some (.inr (.inr (some (8, 0)))), none] [] σ' 2 24 Q := fun σ' h' => by
    refine rf_goW rf_mo_8 rf_T_8 40 [28] (And.intro ⟨by decide, by decide, by decide, by decide⟩ (s3 _ ?_))
    exact B_ao (b := 100) (k := 12) (ab := 8) (ai := 0) (j := 3) h' rfl (fun _ => rfl) (i0_100 (by decide +kernel) (by decide +kernel)) (by decide +kernel) (by decide) (fun _ _ _ => by omega) rfl
  have s1 : ∀ σ', Bd L σ' cM1 (rf_u2 KK 8 0 2) (rf_u2 (KK) 100 10 0) → rf_W l 8 12 [some (.inr (.inr (some (8, 0)))), none] [] σ' 1 12 Q := fun σ' h' => by
    refine rf_goW rf_mo_8 rf_T_8 40 [20] (And.intro ⟨by decide, by decide, by decide, by decide⟩ (s2 _ ?_))
    exact B_ao (b := 100) (k := 12) (ab := 8) (ai := 0) (j := 2) h' rfl (fun _ => rfl) (i0_100 (by decide +kernel) (by decide +kernel)) (by decide +kernel) (by decide) (fun _ _ _ => by omega) rfl
  refine rf_goW rf_mo_8 rf_T_8 40 [12] (And.intro ⟨by decide, by decide, by decide, by decide⟩ (s1 _ ?_))
  have h' : Bd L (rf_newK σ 8 37) cM0 (rf_u2 KK 8 0 0) KK := hb
  exact B_ip (b := 100) (k := 12) (ab := 8) (ai := 0) (j := 1) h' rfl (fun _ => rfl) (by decide +kernel) (by decide) (fun j' q q' => by
      have : j' = 0 := by omega
      subst this; rfl) rfl
end CE
