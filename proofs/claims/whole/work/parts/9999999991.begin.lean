/-! where both begin: the same desk -/
theorem sh_c (b : Nat) : cad cM34 102 b = sh_n b := by
  by_cases h : b < 300
  · have : ∀ b : Fin 300, cad cM34 102 b.val = sh_n b.val := by decide +kernel
    exact this ⟨b, h⟩
  · have o : ∀ x, x < 300 → on b x = 0 := fun x hx => by
      unfold on
      rw [if_neg (by omega)]
    have e1 : sh_n b = 0 := by
      unfold sh_n
      rw [show Nat.ble 100 b = true from Nat.ble_eq_true_of_le (by omega)]
      have : Nat.beq b 200 = false := by
        cases q : Nat.beq b 200 with
        | false => rfl
        | true => exact absurd (Nat.eq_of_beq_eq_true q) (by omega)
      simp only [this]
      rw [rf_nth_eq, List.getElem?_eq_none (by show 7 ≤ b - 100; omega)]
      rfl
    rw [e1]
    simp only [cM34, cM33, cM32, cM31, cM30, cM29, cM28, cM27, cM26, cM25, cM24, cM23, cM22, cM21, cM20, cM19, cM18, cM17, cM16, cM15, cM14, cM13, cM12, cM11, cM10, cM9, cM8, cM7, cM6, cM5, cM4, cM3, cM2, cM1, cM0, ctC, ctB, ctA, cK11, cK10, cK9, cK8, cK7, cK6, cK5, cK4, cK3, cK2, cK1, cK0, cKs, cad, o 200 (by decide), o 0 (by decide), o 1 (by decide), o 2 (by decide), o 3 (by decide), o 4 (by decide), o 5 (by decide), o 6 (by decide), o 7 (by decide), o 8 (by decide), o 100 (by decide), o 101 (by decide), o 102 (by decide), o 103 (by decide), o 104 (by decide), o 105 (by decide), o 106 (by decide)]
theorem i0_far {b i j : Nat} (h : 1000 ≤ j) : i0 b i j = 0 := by
  unfold i0
  split
  · rw [if_neg (by omega)]
  · split
    · rw [if_neg (by omega)]
    · split
      · rw [if_neg (by omega), if_neg (by omega)]
      · split
        · rw [if_neg (by omega), if_neg (by omega)]
        · rfl
theorem nn_0 : nn 0 = 0 := rfl
theorem pl_0 : pl 0 := ⟨by decide, by decide⟩
theorem ok_0 {n : Nat} (h : 0 < n) : ok 0 n := ⟨by decide, h⟩
theorem Rel_0 {I : Nat → Nat → Nat → Int32} (z : ∀ b i j, ¬ b = 200 → i < sh_n b → I b i j = i0 b i j) : Rel I I := by
  have y : ∀ i j, i < 40 → ¬ (i = 10 ∨ i = 16) → ¬ (18 ≤ i ∧ i ≤ 20) → I 100 i j = 0 := fun i j h h1 h2 => (z 100 i j (by decide) h).trans (i0_100 h1 h2 j)
  have y1 : ∀ i j, i < 5 → I 101 i j = 0 := fun i j h => (z 101 i j (by decide) h).trans rfl
  have ym : ∀ i j, i = 10 ∨ i = 16 → j < 12 → I 100 i j = -1 := fun i j h h1 => (z 100 i j (by decide) (show i < 40 by omega)).trans (i0_m1 h h1)
  have yp : ∀ i j, 18 ≤ i ∧ i ≤ 20 → j < 6 → I 100 i j = 1 := fun i j h h1 => (z 100 i j (by decide) (show i < 40 by omega)).trans (i0_p1 h h1)
  have yr : ∀ i, i < 40 → ¬ (i = 10 ∨ i = 16) → ¬ (18 ≤ i ∧ i ≤ 20) → I 100 i = fun _ => 0 := fun i h h1 h2 => funext fun j => y i j h h1 h2
  have k0 : I 8 0 31 = 0 := (z 8 0 31 (by decide) (by decide)).trans rfl
  have k1 : I 8 0 32 = 0 := (z 8 0 32 (by decide) (by decide)).trans rfl
  have nb : ∀ c, c < 8 → ¬ bsy (I 100 27 c) := fun c _ => by
    rw [y 27 c (by decide) (by decide) (by decide)]
    unfold bsy
    decide
  have n0 : ∀ c, mN I c = 0 := fun c => by
    unfold mN
    rw [y 29 c (by decide) (by decide) (by decide)]
    rfl
  refine ⟨⟨?_, ?_, ?_, ?_, ?_, ?_, ?_, ?_⟩, ?_, ?_, ?_, ?_, ?_, ?_, ?_⟩
  · intro h hh f hf
    have e : I 2 h f = if f = 0 ∨ f = 8 then -1 else 0 := z 2 h f (by decide) hh
    rw [e]
    have : f = 0 ∨ f = 1 ∨ f = 2 ∨ f = 3 ∨ f = 4 ∨ f = 5 ∨ f = 6 ∨ f = 7 ∨ f = 8 := by omega
    rcases this with rfl | rfl | rfl | rfl | rfl | rfl | rfl | rfl | rfl
    · exact (ym 10 h (Or.inl rfl) hh).symm
    · exact (y 11 h (by decide) (by decide) (by decide)).symm
    · exact (y 13 h (by decide) (by decide) (by decide)).symm
    · exact (y1 1 h (by decide)).symm
    · exact (y 12 h (by decide) (by decide) (by decide)).symm
    · exact (y 14 h (by decide) (by decide) (by decide)).symm
    · exact (y1 2 h (by decide)).symm
    · exact (y 15 h (by decide) (by decide) (by decide)).symm
    · exact (ym 16 h (Or.inr rfl) hh).symm
  · intro p hp
    have e : ∀ f, I 0 (1 + p) f = if 2 ≤ f ∧ f ≤ 4 then 1 else 0 := fun f => z 0 (1 + p) f (by decide) (show 1 + p < 7 by omega)
    rw [e, e, e, e, e, y 21 p (by decide) (by decide) (by decide), y 22 p (by decide) (by decide) (by decide), yp 18 p (by decide) hp, yp 19 p (by decide) hp, yp 20 p (by decide) hp]
    exact ⟨rfl, rfl, rfl, rfl, rfl⟩
  · intro p hp
    have e : ∀ f, I 6 p f = 0 := fun f => z 6 p f (by decide) hp
    rw [e, e, y1 3 p (by decide), y 25 p (by decide) (by decide) (by decide)]
    exact ⟨rfl, rfl, fun q => absurd rfl q⟩
  · exact ⟨by rw [yr 0 (by decide) (by decide) (by decide), yr 23 (by decide) (by decide) (by decide)], by rw [yr 1 (by decide) (by decide) (by decide), yr 24 (by decide) (by decide) (by decide)]⟩
  · intro c hc
    have e : ∀ f, I 1 (40 + c) f = 0 := fun f => z 1 (40 + c) f (by decide) (show 40 + c < 48 by omega)
    rw [e, e, e, y 27 c (by decide) (by decide) (by decide), y 28 c (by decide) (by decide) (by decide), y 29 c (by decide) (by decide) (by decide)]
    exact ⟨rfl, rfl, rfl, fun m hm => by rw [n0] at hm; omega⟩
  · exact fun c hc q => absurd q (nb c hc)
  · intro s hs
    rw [y1 0 s (by decide), y1 4 s (by decide)]
  · refine ⟨?_, ?_, ?_⟩
    · rw [k0]; exact z 3 0 3 (by decide) (by decide)
    · rw [k1]; exact z 7 0 11 (by decide) (by decide)
    · rw [k0]; exact fun k hk => absurd hk (Nat.not_lt_zero k)
  · intro h hh
    refine ⟨⟨Or.inl (ym 10 h (Or.inl rfl) hh), Or.inl (y1 1 h (by decide)), ?_, ?_⟩, Or.inl (ym 16 h (Or.inr rfl) hh), fun q => absurd (ym 10 h (Or.inl rfl) hh) q, ?_⟩
    · rw [y 11 h (by decide) (by decide) (by decide)]; exact pl_0
    · rw [y 14 h (by decide) (by decide) (by decide)]; exact ⟨by decide, by decide⟩
    · rw [y 12 h (by decide) (by decide) (by decide)]; exact pl_0
  · intro p hp
    rw [y 23 p (by decide) (by decide) (by decide), y 24 p (by decide) (by decide) (by decide), y 25 p (by decide) (by decide) (by decide), y1 3 p (by decide)]
    exact ⟨pl_0, ok_0 (by decide), by decide, fun _ => ⟨rfl, rfl⟩, fun q => absurd rfl q⟩
  · intro p hp
    rw [y 21 p (by decide) (by decide) (by decide), y 22 p (by decide) (by decide) (by decide), yp 18 p (by decide) hp, yp 19 p (by decide) hp, yp 20 p (by decide) hp]
    decide
  · intro c hc
    rw [y 28 c (by decide) (by decide) (by decide), y 29 c (by decide) (by decide) (by decide), n0]
    exact ⟨ok_0 (by decide), ok_0 (by decide), fun m hm => absurd hm (Nat.not_lt_zero m)⟩
  · exact fun c hc q => absurd q (nb c hc)
  · exact fun p hp _ => y 24 p (by decide) (by decide) (by decide)
  · have e : I 3 0 2 = 0 := z 3 0 2 (by decide) (by decide)
    unfold VJ
    rw [e, k0]
    refine ⟨ok_0 (by decide), ok_0 (by decide), fun k hk => ?_, fun k hk => absurd hk (Nat.not_lt_zero k)⟩
    have e1 : I 1 k 1 = 0 := z 1 k 1 (by decide) (show k < 48 by omega)
    rw [e1, y 6 k (by decide) (by decide) (by decide)]
    exact ⟨ok_0 (by decide), ok_0 (by decide)⟩
theorem sh_b {b i : Nat} (h : i < sh_n b) : b = 0 ∨ b = 1 ∨ b = 2 ∨ b = 3 ∨ b = 4 ∨ b = 5 ∨ b = 6 ∨ b = 7 ∨ b = 8 ∨ b = 100 ∨ b = 101 ∨ b = 102 ∨ b = 103 ∨ b = 104 ∨ b = 105 ∨ b = 106 ∨ b = 200 := by
  by_cases q : b < 300
  · have : ∀ b : Fin 300, 0 < sh_n b.val → b.val = 0 ∨ b.val = 1 ∨ b.val = 2 ∨ b.val = 3 ∨ b.val = 4 ∨ b.val = 5 ∨ b.val = 6 ∨ b.val = 7 ∨ b.val = 8 ∨ b.val = 100 ∨ b.val = 101 ∨ b.val = 102 ∨ b.val = 103 ∨ b.val = 104 ∨ b.val = 105 ∨ b.val = 106 ∨ b.val = 200 := by decide +kernel
    exact this ⟨b, q⟩ (Nat.lt_of_le_of_lt (Nat.zero_le i) h)
  · exfalso
    unfold sh_n at h
    rw [show Nat.ble 100 b = true from Nat.ble_eq_true_of_le (by omega)] at h
    have : Nat.beq b 200 = false := by
      cases q : Nat.beq b 200 with
      | false => rfl
      | true => exact absurd (Nat.eq_of_beq_eq_true q) (by omega)
    simp only [this] at h
    rw [rf_nth_eq, List.getElem?_eq_none (by show 7 ≤ b - 100; omega)] at h
    exact absurd h (Nat.not_lt_zero i)
/-- every reference of the shape is of one that is there -/
theorem sh_hP {L : Nat} {I : Nat → Nat → Nat → Int32} {J : Nat → Nat → Nat → Int64} (b i : Nat) (hi : i < (sS L I J).1 b) (j : Nat) (hj : j < (sS L I J).2.1 b i ∨ j < (rf_ft b).length) : rf_ok (sS L I J) (.inr (.inr ((sS L I J).2.2.2.1 b i j))) := by
  rcases sh_b hi with rfl | rfl | rfl | rfl | rfl | rfl | rfl | rfl | rfl | rfl | rfl | rfl | rfl | rfl | rfl | rfl | rfl
  · exact True.intro
  · exact Or.inr hi
  · exact True.intro
  · match j with
    | 0 => exact Or.inr (show 1 < 2 by decide)
    | 1 => exact Or.inr (show 6 < 40 by decide)
    | j + 2 => exact True.intro
  · have i2 : i < 2 := hi
    have j6 : j < 6 := by
      have : i = 0 ∨ i = 1 := by omega
      rcases this with rfl | rfl
      · exact hj.elim id fun q => Nat.lt_of_lt_of_le q (by decide)
      · exact hj.elim id fun q => Nat.lt_of_lt_of_le q (by decide)
    exact Or.inr (show 3 * i + j < 40 by omega)
  · exact True.intro
  · have i6 : i < 6 := hi
    exact Or.inr (show 1 + i < 7 by omega)
  · show rf_ok (sS L I J) (.inr (.inr (rf_nth sh_p7 j)))
    by_cases q : j < 11
    · have : ∀ j : Fin 11, ∃ r, rf_nth sh_p7 j.val = some r ∧ r.2 < sh_n r.1 := by
        intro j
        match j with
        | ⟨0, _⟩ => exact ⟨_, rfl, by decide⟩
        | ⟨1, _⟩ => exact ⟨_, rfl, by decide⟩
        | ⟨2, _⟩ => exact ⟨_, rfl, by decide⟩
        | ⟨3, _⟩ => exact ⟨_, rfl, by decide⟩
        | ⟨4, _⟩ => exact ⟨_, rfl, by decide⟩
        | ⟨5, _⟩ => exact ⟨_, rfl, by decide⟩
        | ⟨6, _⟩ => exact ⟨_, rfl, by decide⟩
        | ⟨7, _⟩ => exact ⟨_, rfl, by decide⟩
        | ⟨8, _⟩ => exact ⟨_, rfl, by decide⟩
        | ⟨9, _⟩ => exact ⟨_, rfl, by decide⟩
        | ⟨10, _⟩ => exact ⟨_, rfl, by decide⟩
      obtain ⟨r, e, hr⟩ := this ⟨j, q⟩
      rw [show rf_nth sh_p7 j = some r from e]
      exact Or.inr hr
    · rw [show rf_nth sh_p7 j = none from p7_no j (by omega)]
      exact True.intro
  · show rf_ok (sS L I J) (.inr (.inr ((rf_nth sh_p8 j).getD none)))
    have al : ∀ r ∈ sh_p8, r = none ∨ ∃ s, r = some s ∧ s.2 < sh_n s.1 := by
      intro r hr
      have c : ∀ r ∈ sh_p8, (match r with | none => true | some s => decide (s.2 < sh_n s.1)) = true := by decide +kernel
      have := c r hr
      cases r with
      | none => exact Or.inl rfl
      | some s => exact Or.inr ⟨s, rfl, of_decide_eq_true this⟩
    cases e : rf_nth sh_p8 j with
    | none => exact True.intro
    | some r =>
      rw [rf_nth_eq] at e
      rcases al r (List.mem_of_getElem? e) with rfl | ⟨s, rfl, hs⟩
      · exact True.intro
      · exact Or.inr hs
  · exact True.intro
  · exact True.intro
  · exact True.intro
  · have j12 : j < 12 := hj.elim id fun q => absurd q (Nat.not_lt_zero j)
    exact Or.inr j12
  · have j6 : j < 6 := hj.elim id fun q => absurd q (Nat.not_lt_zero j)
    exact Or.inr j6
  · have i2 : i < 2 := hi
    have : i = 0 ∨ i = 1 := by omega
    rcases this with rfl | rfl
    · have j8 : j < 8 := hj.elim id fun q => absurd q (Nat.not_lt_zero j)
      exact Or.inr (show 40 + j < 48 by omega)
    · have j8 : j < 40 := hj.elim id fun q => absurd q (Nat.not_lt_zero j)
      exact Or.inr (show j < 48 by omega)
  · have i48 : i < 48 := hi
    have j4 : j < 4 := hj.elim id fun q => absurd q (Nat.not_lt_zero j)
    exact Or.inr (show 4 * i + j < 192 by omega)
  · exact True.intro
theorem p0_arr {L b i j : Nat} (hb : 100 ≤ b) (hi : i < sh_n b) (hj : j < sh_len L b i) : p0 b i j = sh_P b i j := by
  rcases sh_b hi with rfl | rfl | rfl | rfl | rfl | rfl | rfl | rfl | rfl | rfl | rfl | rfl | rfl | rfl | rfl | rfl | rfl
  · omega
  · omega
  · omega
  · omega
  · omega
  · omega
  · omega
  · omega
  · omega
  · rfl
  · rfl
  · rfl
  · exact if_pos hj
  · exact if_pos hj
  · have i2 : i < 2 := hi
    have : i = 0 ∨ i = 1 := by omega
    rcases this with rfl | rfl
    · exact if_pos hj
    · exact if_pos hj
  · exact if_pos hj
  · rfl
theorem p0_fld {b i j : Nat} (hb : b < 100) (hi : i < sh_n b) (hj : rf_nth (rf_ft b) j = some 2) : p0 b i j = sh_P b i j := by
  have lt : j < (rf_ft b).length := by
    rw [rf_nth_eq] at hj
    exact (List.getElem?_eq_some_iff.mp hj).1
  rcases sh_b hi with rfl | rfl | rfl | rfl | rfl | rfl | rfl | rfl | rfl | rfl | rfl | rfl | rfl | rfl | rfl | rfl | rfl
  · rfl
  · match j, lt with
    | 0, _ => rfl
    | 1, _ => cases hj
    | 2, _ => cases hj
    | 3, _ => cases hj
  · rfl
  · rfl
  · exact if_pos lt
  · rfl
  · match j, lt with
    | 0, _ => rfl
    | 1, _ => cases hj
    | 2, _ => cases hj
    | 3, _ => cases hj
    | 4, _ => cases hj
  · rfl
  · rfl
  · omega
  · omega
  · omega
  · omega
  · omega
  · omega
  · omega
  · omega
section LG
variable {l : Launch} {L : Nat} {Q : rf_O → rf_S → Prop} {σ : rf_S}
theorem B_eq (h : Bd L σ (cad cM34 102) KK KK) : eqS2 σ (sS L σ.2.2.1 σ.2.2.2.2) := by
  have n : ∀ b, σ.1 b = sh_n b := fun b => (h.1 b).trans (sh_c b)
  have v : ∀ b i, i < σ.1 b → hf L σ b i 1000 1000 := fun b i hi => h.2.1 b i (by rw [← h.1 b]; exact hi)
  have vp : ∀ b i j, i < σ.1 b → j < 1000 → σ.2.2.2.1 b i j = p0 b i j := fun b i j hi hj => by rw [(v b i hi).2.2 j, if_pos hj]
  have vl : ∀ b i, 100 ≤ b → i < σ.1 b → σ.2.1 b i = sh_len L b i := fun b i hb hi => (v b i hi).1.trans (if_neg (by omega))
  refine ⟨n, vl, fun b i hb hi j hj => ⟨rfl, ?_, rfl⟩, fun b i hb hi j t ht => ⟨fun q => ?_, fun _ => rfl⟩, rfl⟩
  · have e := p0_arr (L := L) hb (by rw [← n b]; exact hi) (by rw [← vl b i hb hi]; exact hj)
    rw [(v b i hi).2.2 j]
    show _ = sh_P b i j
    by_cases q : j < 1000
    · rw [if_pos q, e]
    · rw [if_neg q, ← e]
      have hi' : i < sh_n b := by rw [← n b]; exact hi
      symm
      rcases sh_b hi' with rfl | rfl | rfl | rfl | rfl | rfl | rfl | rfl | rfl | rfl | rfl | rfl | rfl | rfl | rfl | rfl | rfl
      · rfl
      · exact if_neg (by omega)
      · rfl
      · omega
      · exact if_neg (by omega)
      · rfl
      · exact if_neg (by omega)
      · omega
      · omega
      · rfl
      · rfl
      · rfl
      · exact if_neg (by omega)
      · exact if_neg (by omega)
      · show (if i = 0 then (if j < 8 then some (1, 40 + j) else none) else (if j < 40 then some (1, j) else none)) = none
        rw [if_neg (c := j < 8) (by omega), if_neg (c := j < 40) (by omega)]
        split <;> rfl
      · exact if_neg (by omega)
      · rfl
  · have lt : j < (rf_ft b).length := by
      rw [rf_nth_eq] at ht
      exact (List.getElem?_eq_some_iff.mp ht).1
    have l9 : (rf_ft b).length ≤ 37 := by
      by_cases q9 : b < 9
      · have : ∀ b : Fin 9, (rf_ft b.val).length ≤ 37 := by decide +kernel
        exact this ⟨b, q9⟩
      · unfold rf_ft
        rw [rf_nth_eq, List.getElem?_eq_none (by show 9 ≤ b; omega)]
        exact Nat.zero_le _
    rw [vp b i j hi (by omega)]
    exact p0_fld hb (by rw [← n b]; exact hi) (by rw [ht, q])
theorem B_I (h : Bd L σ (cad cM34 102) KK KK) (b i j : Nat) (hb : ¬ b = 200) (hi : i < sh_n b) : σ.2.2.1 b i j = i0 b i j := by
  rw [(h.2.1 b i (by rw [sh_c b]; exact hi)).2.1 hb j]
  show (if j < 1000 then i0 b i j else 0) = _
  by_cases q : j < 1000
  · rw [if_pos q]
  · rw [if_neg q, i0_far (by omega)]
/-- the law, from its first instruction on -/
theorem w_law (hL : L ≤ 3072) (hQ : ∀ I J, Q (.inl (some (.inl 1))) (sS L I J)) (hB : Bd L σ cKs KK KK) : rf_W l 165 0 [some (.inr (.inr (some (200, 0)))), none, none, none, none, none, none] [] σ 0 0 Q := by
  have s15 : ∀ σ', Bd L σ' cM34 KK KK → ∀ x, x = 0 → rf_W l 165 15 [some (.inr (.inr (some (200, 0)))), some (.inr (.inr (some (7, 0)))), none, none, none, none, none] [.inr (.inr (some (8, x)))] σ' 367 3102 Q := by
    intro σ' h' x hx
    subst hx
    have w := B_arr (b := 102) (k := 1) h' rfl (fun _ => rfl) (fun _ => rfl)
    have g := rf_W_cg (l := l) (k := 165) (pc := 23) (lv := [some (.inr (.inr (some (200, 0)))), some (.inr (.inr (some (7, 0)))), some (.inr (.inr (some (8, 0)))), some (.inr (.inr (some (102, 0)))), some (.inl (Int32.ofNat 0)), none, none]) (st := []) (ce := 368) (sl := 3103) (Q := Q) (B_eq w) sh_hP (w_loop hL hQ (L + 6) 0 _ _ 368 3103 (by omega) (by omega) (Rel_0 (B_I w)) (by omega) (by omega))
    have e : σ'.1 102 = 0 := (h'.1 102).trans (by decide +kernel)
    have t : ∀ x, x = 0 → rf_W l 165 19 [some (.inr (.inr (some (200, 0)))), some (.inr (.inr (some (7, 0)))), some (.inr (.inr (some (8, 0)))), none, none, none, none] [.inr (.inr (some (102, x)))] (rf_newK σ' 102 1) 368 3103 Q := by
      rintro _ rfl
      exact rf_goW rf_mo_165 rf_T_165 20 [23] g
    exact rf_goW rf_mo_165 rf_T_165 20 [19] (And.intro ⟨by decide, by decide, by decide, by decide⟩ (t _ e))
  have s7 : ∀ σ', Bd L σ' (ctC 8) KK KK → ∀ x, x = 0 → rf_W l 165 7 [some (.inr (.inr (some (200, 0)))), none, none, none, none, none, none] [.inr (.inr (some (7, x)))] σ' 332 1702 Q := by
    intro σ' h' x hx
    subst hx
    have e : σ'.1 8 = 0 := (h'.1 8).trans rfl
    refine rf_goW rf_mo_165 rf_T_165 20 [15] (And.intro ⟨by decide, by decide⟩ (And.intro ⟨by decide, by decide⟩ (n_model h' fun σ2 h2 => ?_)))
    exact s15 σ2 h2 _ e
  have e : σ.1 7 = 0 := (hB.1 7).trans rfl
  refine rf_goW rf_mo_165 rf_T_165 20 [7] (And.intro ⟨by decide, by decide⟩ (And.intro ⟨by decide, by decide⟩ (n_desk hB fun σ2 h2 => ?_)))
  exact s7 σ2 h2 _ e
end LG
