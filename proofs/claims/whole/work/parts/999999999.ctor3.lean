/-! FlyingDesk's own constructor -/
def KK : Nat → Nat → Nat := fun _ _ => 1000
def Nd (a b d n : Nat) : Nat → Nat → Nat := rf_u2 (rf_u2 (rf_u2 (rf_u2 KK 103 0 a) 104 0 b) 105 0 d) 7 0 n
def cKs : Nat → Nat := fun b => on b 200
def cK0 : Nat → Nat := cad cKs 7
def cK1 : Nat → Nat := cad cK0 103
def cK2 : Nat → Nat := cad cK1 104
def cK3 : Nat → Nat := cad cK2 105
def cK4 : Nat → Nat := cad cK3 101
def cK5 : Nat → Nat := fun b => cK4 b + on b 4 + 3 * on b 100
def cK6 : Nat → Nat := fun b => cK5 b + on b 4 + 3 * on b 100
def cK7 : Nat → Nat := fun b => cK6 b + on b 3 + on b 105 + on b 100 + 40 * (on b 1 + on b 106 + 4 * on b 5)
def cK8 : Nat → Nat := cad cK7 0
def cK9 : Nat → Nat := cad cK8 100
def cK10 : Nat → Nat := cad cK9 100
def cK11 : Nat → Nat := cad cK10 100
def ctA (m : Nat) : Nat → Nat := fun b => cK11 b + m * on b 2
def ctB (m : Nat) : Nat → Nat := fun b => ctA 12 b + m * (on b 6 + on b 0)
def ctC (m : Nat) : Nat → Nat := fun b => ctB 6 b + m * (on b 1 + on b 106 + 4 * on b 5)
section CD
variable {l : Launch} {L : Nat} {Q : rf_O → rf_S → Prop} {σ : rf_S} {c : Nat → Nat} {N M : Nat → Nat → Nat}
theorem B_op {ab ai j n : Nat} {x : Option (Nat × Nat)} (h : Bd L σ c (rf_u2 N ab ai n) M) (hi : ai < c ab) (hj : n ≤ j) (hg : ∀ j', n ≤ j' → j' < j → p0 ab ai j' = none) (hx : p0 ab ai j = x) : Bd L (rf_putP σ ab ai j x) c (rf_u2 N ab ai (j + 1)) M := by
  have w := B_putP h hi u2_at hj hg hx
  rw [u2_u2] at w
  exact w
theorem B_ao {b k ab ai j n : Nat} (h : Bd L σ c (rf_u2 N ab ai n) M) (hk : fl0 L b (c b) = k) (hp : ∀ j, p0 b (c b) j = none) (hz : ∀ j, i0 b (c b) j = 0) (hi : ai < c ab) (hj : n ≤ j) (hg : ∀ j', n ≤ j' → j' < j → p0 ab ai j' = none) (hx : p0 ab ai j = some (b, c b)) : Bd L (rf_putP (rf_newK σ b k) ab ai j (some (b, σ.1 b))) (cad c b) (rf_u2 N ab ai (j + 1)) M := by
  have w := B_ap h hk hp hz hi u2_at hj hg hx
  rw [u2_u2] at w
  exact w
theorem B_rp {b k ab ai j n : Nat} (h : Bd L σ c (rf_u2 N ab ai n) M) (hk : fl0 L b (c b) = k) (hz : ∀ j, i0 b (c b) j = 0) (hi : ai < c ab) (hj : n ≤ j) (hg : ∀ j', n ≤ j' → j' < j → p0 ab ai j' = none) (hx : p0 ab ai j = some (b, c b)) : Bd L (rf_putP (rf_newK σ b k) ab ai j (some (b, σ.1 b))) (cad c b) (rf_u2 (rf_u2 N b (c b) 0) ab ai (j + 1)) M := by
  rw [h.1 b]
  have ne : ¬ (ab = b ∧ ai = c b) := fun e => by obtain ⟨rfl, rfl⟩ := e; omega
  have w0 := B_ref h hk hz
  rw [u2_sw ne] at w0
  exact B_op w0 (cad_le hi) hj hg hx
/-- an int array that will be filled -/
theorem B_ip {b k ab ai j n : Nat} (h : Bd L σ c (rf_u2 N ab ai n) M) (hk : fl0 L b (c b) = k) (hp : ∀ j, p0 b (c b) j = none) (hi : ai < c ab) (hj : n ≤ j) (hg : ∀ j', n ≤ j' → j' < j → p0 ab ai j' = none) (hx : p0 ab ai j = some (b, c b)) : Bd L (rf_putP (rf_newK σ b k) ab ai j (some (b, σ.1 b))) (cad c b) (rf_u2 N ab ai (j + 1)) (rf_u2 M b (c b) 0) := by
  rw [h.1 b]
  have w0 := B_fN (B_new h hk) (fun j _ => hp j) (fun j _ => hp j)
  rw [u2_u2, u2_id (h.2.2 b (c b) (Nat.le_refl _)).1] at w0
  exact B_op w0 (cad_le hi) hj hg hx
theorem Nd_103 {a b d n x : Nat} : rf_u2 (Nd a b d n) 103 0 x = Nd x b d n := by
  funext b' i'
  by_cases q : b' = 103 ∧ i' = 0
  · obtain ⟨rfl, rfl⟩ := q
    rfl
  · rw [u2_ne q]
    simp only [Nd, rf_u2, if_neg q]
theorem Nd_104 {a b d n x : Nat} : rf_u2 (Nd a b d n) 104 0 x = Nd a x d n := by
  funext b' i'
  by_cases q : b' = 104 ∧ i' = 0
  · obtain ⟨rfl, rfl⟩ := q
    rfl
  · rw [u2_ne q]
    simp only [Nd, rf_u2, if_neg q]
theorem Nd_105 {a b d n x : Nat} : rf_u2 (Nd a b d n) 105 0 x = Nd a b x n := by
  funext b' i'
  by_cases q : b' = 105 ∧ i' = 0
  · obtain ⟨rfl, rfl⟩ := q
    rfl
  · rw [u2_ne q]
    simp only [Nd, rf_u2, if_neg q]
theorem Nd_7 {a b d n x : Nat} : rf_u2 (Nd a b d n) 7 0 x = Nd a b d x := u2_u2
theorem Nd_K : Nd 1000 1000 1000 1000 = KK := by
  unfold Nd
  have e : ∀ b, rf_u2 KK b 0 1000 = KK := fun b => u2_id rfl
  rw [e, e, e, e]
theorem p7_no (j : Nat) (h : 11 ≤ j) : p0 7 0 j = none := by
  show rf_nth sh_p7 j = none
  rw [rf_nth_eq]
  exact List.getElem?_eq_none h

theorem n_desk (h : Bd L σ cKs KK KK) (hq : ∀ σ', Bd L σ' (ctC 8) KK KK → Q (.inl none) σ') : rf_C l 7 [.inr (.inr (some (7, σ.1 7)))] (rf_newK σ 7 12) Q := by
  have hb := B_ref (b := 7) (k := 12) h rfl (fun _ => rfl)
  rw [h.1 7]
  apply rf_C.ofW
  have lpC : ∀ m i σ', i + m = 8 → Bd L σ' (ctC i) (Nd 12 6 i 11) KK → rf_W l 7 167 [some (.inr (.inr (some (7, 0)))), some (.inl (Int32.ofNat i))] [] σ' (283 + 6 * i) (1466 + 28 * i) Q := by
    intro m
    induction m with
    | zero =>
      intro i σ' hi h'
      obtain rfl : i = 8 := by omega
      have z3 : ∀ j, 12 ≤ j → p0 103 0 j = none := fun j hj => by
        show (if j < 12 then some (2, j) else none) = none
        rw [if_neg (by omega)]
      have z4 : ∀ j, 6 ≤ j → p0 104 0 j = none := fun j hj => by
        show (if j < 6 then some (6, j) else none) = none
        rw [if_neg (by omega)]
      have z5 : ∀ j, 8 ≤ j → p0 105 0 j = none := fun j hj => by
        show (if j < 8 then some (1, 40 + j) else none) = none
        rw [if_neg (by omega)]
      have w := B_fN (b := 103) (i := 0) h' (fun j hj => z3 j hj) (fun j hj => z3 j (by omega))
      rw [Nd_103] at w
      have w := B_fN (b := 104) (i := 0) w (fun j hj => z4 j hj) (fun j hj => z4 j (by omega))
      rw [Nd_104] at w
      have w := B_fN (b := 105) (i := 0) w (fun j hj => z5 j hj) (fun j hj => z5 j (by omega))
      rw [Nd_105] at w
      have w := B_fN (b := 7) (i := 0) w (fun j hj => p7_no j hj) (fun j hj => p7_no j (by omega))
      rw [Nd_7, Nd_K] at w
      exact rf_goW rf_mo_7 rf_T_7 40 [] (And.intro (fun _ => hq _ w) (fun n => absurd (by decide) n))
    | succ m ih =>
      intro i σ' hi h'
      have lt : i < 8 := by omega
      have v7 : ∀ i, 0 < ctC i 7 := fun i => Nat.lt_of_lt_of_le (Nat.zero_lt_one) (Nat.le_add_right 1 _)
      have g1 : σ'.2.2.2.1 7 0 2 = some (105, 0) := B_P h' (v7 i) (n := 11) rfl (by omega)
      have st : ∀ r, r = some (105, 0) → rf_W l 7 177 [some (.inr (.inr (some (7, 0)))), some (.inl (Int32.ofNat i))] [.inr (.inr r)] σ' (283 + 6 * i) (1466 + 28 * i) Q := by
        rintro _ rfl
        refine rf_goW rf_mo_7 rf_T_7 40 [167] (And.intro ⟨?_, ?_⟩ (And.intro ⟨?_, ?_⟩ (n_cue h' (by show 40 + i * 1 = 40 + i * 1; rfl) (by show 160 + i * 4 = 4 * (40 + i * 1); omega) fun σ2 h2 => ?_)))
        · show 283 + 6 * i + 1 ≤ 331; omega
        · show 1466 + 28 * i + 4 ≤ 1690; omega
        · show 283 + 6 * i + 1 + 5 ≤ 331; omega
        · show 1466 + 28 * i + 4 + 24 ≤ 1690; omega
        · have va : 0 < ctC i 105 + 0 := Nat.lt_of_lt_of_le (Nat.zero_lt_two) (Nat.le_add_right 2 _)
          have gl : σ2.2.1 105 0 = 8 := B_l h2 va
          refine And.intro (nt_ix (by rw [gl]; exact lt) (by rw [gl]; decide)) ?_
          have w := B_putP (b := 105) (i := 0) (j := i) (x := some (1, 40 + i)) h2 va (n := i) rfl (Nat.le_refl _) (fun _ _ _ => by omega) (by
            show (if i < 8 then some (1, 40 + i) else none) = _
            rw [if_pos lt])
          rw [Nd_105] at w
          have q := ih (i + 1) _ (by omega) (B_c w (c' := ctC (i + 1)) fun b => by
            show ctB 6 b + i * (on b 1 + on b 106 + 4 * on b 5) + on b 1 + on b 106 + 4 * on b 5 = ctB 6 b + (i + 1) * (on b 1 + on b 106 + 4 * on b 5)
            rw [Nat.add_one_mul i]
            omega)
          rw [← nt_succ] at q
          have eb : σ'.1 1 = 40 + i := (h'.1 1).trans (by
            show 40 + i * 1 = 40 + i
            omega)
          rw [nt_cl (by omega), eb]
          exact q
      refine rf_goW rf_mo_7 rf_T_7 40 [177] (And.intro (fun n => ?_) (fun _ => ?_))
      · exact absurd ((nt_le (i := 8) (n := i) (by decide) (by omega)).mp n) (by omega)
      · exact st _ g1
  have lpB : ∀ m i σ', i + m = 6 → Bd L σ' (ctB i) (Nd 12 i 0 11) KK → rf_W l 7 140 [some (.inr (.inr (some (7, 0)))), some (.inl (Int32.ofNat i))] [] σ' (271 + 2 * i) (1406 + 10 * i) Q := by
    intro m
    induction m with
    | zero =>
      intro i σ' hi h'
      obtain rfl : i = 6 := by omega
      exact rf_goW rf_mo_7 rf_T_7 40 [167] (And.intro (fun _ => lpC 8 0 _ (by omega) (B_c h' (c' := ctC 0) fun b => by
        show ctB 6 b = ctB 6 b + 0 * (on b 1 + on b 106 + 4 * on b 5)
        omega)) (fun n => absurd (by decide) n))
    | succ m ih =>
      intro i σ' hi h'
      have lt : i < 6 := by omega
      have v7 : ∀ i, 0 < ctB i 7 := fun i => Nat.lt_of_lt_of_le (Nat.zero_lt_one) (Nat.le_add_right 1 _)
      have g1 : σ'.2.2.2.1 7 0 1 = some (104, 0) := B_P h' (v7 i) (n := 11) rfl (by omega)
      have st : ∀ r, r = some (104, 0) → rf_W l 7 150 [some (.inr (.inr (some (7, 0)))), some (.inl (Int32.ofNat i))] [.inr (.inr r)] σ' (271 + 2 * i) (1406 + 10 * i) Q := by
        rintro _ rfl
        refine rf_goW rf_mo_7 rf_T_7 40 [140] (And.intro ⟨?_, ?_⟩ (And.intro ⟨?_, ?_⟩ (n_piece h' (by show 1 + i * 1 = 1 + (0 + i * 1); omega) fun σ2 h2 => ?_)))
        · show 271 + 2 * i + 1 ≤ 331; omega
        · show 1406 + 10 * i + 5 ≤ 1690; omega
        · show 271 + 2 * i + 1 + 1 ≤ 331; omega
        · show 1406 + 10 * i + 5 + 5 ≤ 1690; omega
        · have va : 0 < ctB i 104 + 0 := Nat.lt_of_lt_of_le (Nat.zero_lt_one) (Nat.le_add_right 1 _)
          have gl : σ2.2.1 104 0 = 6 := B_l h2 va
          refine And.intro (nt_ix (by rw [gl]; exact lt) (by rw [gl]; decide)) ?_
          have w := B_putP (b := 104) (i := 0) (j := i) (x := some (6, i)) h2 va (n := i) rfl (Nat.le_refl _) (fun _ _ _ => by omega) (by
            show (if i < 6 then some (6, i) else none) = _
            rw [if_pos lt])
          rw [Nd_104] at w
          have q := ih (i + 1) _ (by omega) (B_c w (c' := ctB (i + 1)) fun b => by
            show ctA 12 b + i * (on b 6 + on b 0) + on b 6 + on b 0 = ctA 12 b + (i + 1) * (on b 6 + on b 0)
            rw [Nat.add_one_mul i]
            omega)
          rw [← nt_succ] at q
          have eb : σ'.1 6 = i := (h'.1 6).trans (by
            show 0 + i * 1 = i
            omega)
          rw [nt_cl (by omega), eb]
          exact q
      refine rf_goW rf_mo_7 rf_T_7 40 [150] (And.intro (fun n => ?_) (fun _ => ?_))
      · exact absurd ((nt_le (i := 6) (n := i) (by decide) (by omega)).mp n) (by omega)
      · exact st _ g1
  have lpA : ∀ m i σ', i + m = 12 → Bd L σ' (ctA i) (Nd i 0 0 11) KK → rf_W l 7 113 [some (.inr (.inr (some (7, 0)))), some (.inl (Int32.ofNat i))] [] σ' (259 + 1 * i) (1298 + 9 * i) Q := by
    intro m
    induction m with
    | zero =>
      intro i σ' hi h'
      obtain rfl : i = 12 := by omega
      exact rf_goW rf_mo_7 rf_T_7 40 [140] (And.intro (fun _ => lpB 6 0 _ (by omega) (B_c h' (c' := ctB 0) fun b => by
        show ctA 12 b = ctA 12 b + 0 * (on b 6 + on b 0)
        omega)) (fun n => absurd (by decide) n))
    | succ m ih =>
      intro i σ' hi h'
      have lt : i < 12 := by omega
      have v7 : ∀ i, 0 < ctA i 7 := fun i => Nat.lt_of_lt_of_le (Nat.zero_lt_one) (Nat.le_add_right 1 _)
      have g1 : σ'.2.2.2.1 7 0 0 = some (103, 0) := B_P h' (v7 i) (n := 11) rfl (by omega)
      have st : ∀ r, r = some (103, 0) → rf_W l 7 123 [some (.inr (.inr (some (7, 0)))), some (.inl (Int32.ofNat i))] [.inr (.inr r)] σ' (259 + 1 * i) (1298 + 9 * i) Q := by
        rintro _ rfl
        refine rf_goW rf_mo_7 rf_T_7 40 [113] (And.intro ⟨?_, ?_⟩ (And.intro ⟨?_, ?_⟩ (n_drive h' fun σ2 h2 => ?_)))
        · show 259 + 1 * i + 1 ≤ 331; omega
        · show 1298 + 9 * i + 9 ≤ 1690; omega
        · show 259 + 1 * i + 1 + 0 ≤ 331; omega
        · show 1298 + 9 * i + 9 + 0 ≤ 1690; omega
        · have va : 0 < ctA i 103 + 0 := Nat.lt_of_lt_of_le (Nat.zero_lt_one) (Nat.le_add_right 1 _)
          have gl : σ2.2.1 103 0 = 12 := B_l h2 va
          refine And.intro (nt_ix (by rw [gl]; exact lt) (by rw [gl]; decide)) ?_
          have w := B_putP (b := 103) (i := 0) (j := i) (x := some (2, i)) h2 va (n := i) rfl (Nat.le_refl _) (fun _ _ _ => by omega) (by
            show (if i < 12 then some (2, i) else none) = _
            rw [if_pos lt])
          rw [Nd_103] at w
          have q := ih (i + 1) _ (by omega) (B_c w (c' := ctA (i + 1)) fun b => by
            show cK11 b + i * on b 2 + on b 2 = cK11 b + (i + 1) * on b 2
            rw [Nat.add_one_mul i]
            omega)
          rw [← nt_succ] at q
          have eb : σ'.1 2 = i := (h'.1 2).trans (by
            show 0 + i * 1 = i
            omega)
          rw [nt_cl (by omega), eb]
          exact q
      refine rf_goW rf_mo_7 rf_T_7 40 [123] (And.intro (fun n => ?_) (fun _ => ?_))
      · exact absurd ((nt_le (i := 12) (n := i) (by decide) (by omega)).mp n) (by omega)
      · exact st _ g1
  have s106 : ∀ σ', Bd L σ' cK11 (Nd 0 0 0 11) KK → rf_W l 7 106 [some (.inr (.inr (some (7, 0)))), none] [] σ' 259 1298 Q := fun σ' h' => by
    exact rf_goW rf_mo_7 rf_T_7 40 [113] (lpA 12 0 _ (by omega) (B_c (c' := ctA 0) (B_put0 h' fun _ => rfl) fun b => by
      show cK11 b = cK11 b + 0 * on b 2
      omega))
  have s98 : ∀ σ', Bd L σ' cK10 (Nd 0 0 0 10) KK → rf_W l 7 98 [some (.inr (.inr (some (7, 0)))), none] [] σ' 258 1292 Q := fun σ' h' => by
    refine rf_goW rf_mo_7 rf_T_7 40 [106] (And.intro ⟨by decide, by decide, by decide, by decide⟩ (s106 _ ?_))
    exact B_ao (b := 100) (k := 6) (j := 10) h' rfl (fun _ => rfl) (i0_100 (by decide) (by decide)) (by decide) (Nat.le_refl _) (fun _ _ _ => by omega) rfl
  have s90 : ∀ σ', Bd L σ' cK9 (Nd 0 0 0 9) KK → rf_W l 7 90 [some (.inr (.inr (some (7, 0)))), none] [] σ' 257 1286 Q := fun σ' h' => by
    refine rf_goW rf_mo_7 rf_T_7 40 [98] (And.intro ⟨by decide, by decide, by decide, by decide⟩ (s98 _ ?_))
    exact B_ao (b := 100) (k := 6) (j := 9) h' rfl (fun _ => rfl) (i0_100 (by decide) (by decide)) (by decide) (Nat.le_refl _) (fun _ _ _ => by omega) rfl
  have s82 : ∀ σ', Bd L σ' cK8 (Nd 0 0 0 8) KK → rf_W l 7 82 [some (.inr (.inr (some (7, 0)))), none] [] σ' 256 1280 Q := fun σ' h' => by
    refine rf_goW rf_mo_7 rf_T_7 40 [90] (And.intro ⟨by decide, by decide, by decide, by decide⟩ (s90 _ ?_))
    exact B_ao (b := 100) (k := 6) (j := 8) h' rfl (fun _ => rfl) (i0_100 (by decide) (by decide)) (by decide) (Nat.le_refl _) (fun _ _ _ => by omega) rfl
  have s71 : ∀ σ', Bd L σ' cK7 (Nd 0 0 0 7) KK → rf_W l 7 71 [some (.inr (.inr (some (7, 0)))), none] [] σ' 255 1275 Q := fun σ' h' => by
    refine rf_goW rf_mo_7 rf_T_7 40 [82] (And.intro ⟨by decide, by decide⟩ (And.intro ⟨by decide, by decide⟩ (n_box h' fun σ2 h2 => s82 _ ?_)))
    have eb : σ'.1 0 = 0 := (h'.1 0).trans rfl
    rw [eb]
    exact B_op (j := 7) h2 (by decide) (Nat.le_refl _) (fun _ _ _ => by omega) rfl
  have s60 : ∀ σ', Bd L σ' cK6 (Nd 0 0 0 6) KK → rf_W l 7 60 [some (.inr (.inr (some (7, 0)))), none] [] σ' 12 71 Q := fun σ' h' => by
    refine rf_goW rf_mo_7 rf_T_7 40 [71] (And.intro ⟨by decide, by decide⟩ (And.intro ⟨by decide, by decide⟩ (n_journal h' rfl rfl rfl rfl rfl rfl fun σ2 h2 => s71 _ ?_)))
    have eb : σ'.1 3 = 0 := (h'.1 3).trans rfl
    rw [eb]
    exact B_op (j := 6) h2 (by decide) (Nat.le_refl _) (fun _ _ _ => by omega) rfl
  have s49 : ∀ σ', Bd L σ' cK5 (Nd 0 0 0 5) KK → rf_W l 7 49 [some (.inr (.inr (some (7, 0)))), none] [] σ' 8 50 Q := fun σ' h' => by
    refine rf_goW rf_mo_7 rf_T_7 40 [60] (And.intro ⟨by decide, by decide⟩ (And.intro ⟨by decide, by decide⟩ (n_masters h' rfl (by decide) fun σ2 h2 => s60 _ ?_)))
    have eb : σ'.1 4 = 1 := (h'.1 4).trans rfl
    rw [eb]
    exact B_op (j := 5) h2 (by decide) (Nat.le_refl _) (fun _ _ _ => by omega) rfl
  have s38 : ∀ σ', Bd L σ' cK4 (Nd 0 0 0 4) KK → rf_W l 7 38 [some (.inr (.inr (some (7, 0)))), none] [] σ' 4 29 Q := fun σ' h' => by
    refine rf_goW rf_mo_7 rf_T_7 40 [49] (And.intro ⟨by decide, by decide⟩ (And.intro ⟨by decide, by decide⟩ (n_masters h' rfl (by decide) fun σ2 h2 => s49 _ ?_)))
    have eb : σ'.1 4 = 0 := (h'.1 4).trans rfl
    rw [eb]
    exact B_op (j := 4) h2 (by decide) (Nat.le_refl _) (fun _ _ _ => by omega) rfl
  have s31 : ∀ σ', Bd L σ' cK3 (Nd 0 0 0 3) KK → rf_W l 7 31 [some (.inr (.inr (some (7, 0)))), none] [] σ' 3 26 Q := fun σ' h' => by
    refine rf_goW rf_mo_7 rf_T_7 40 [38] (And.intro ⟨by decide, by decide, by decide, by decide⟩ (s38 _ ?_))
    exact B_ao (b := 101) (k := 3) (j := 3) h' rfl (fun _ => rfl) (fun _ => rfl) (by decide) (Nat.le_refl _) (fun _ _ _ => by omega) rfl
  have s22 : ∀ σ', Bd L σ' cK2 (rf_u2 (rf_u2 (rf_u2 KK 103 0 0) 104 0 0) 7 0 2) KK → rf_W l 7 22 [some (.inr (.inr (some (7, 0)))), none] [] σ' 2 18 Q := fun σ' h' => by
    refine rf_goW rf_mo_7 rf_T_7 40 [31] (And.intro ⟨by decide, by decide, by decide, by decide⟩ (s31 _ ?_))
    exact B_rp (b := 105) (k := 8) (j := 2) h' rfl (fun _ => rfl) (by decide) (Nat.le_refl _) (fun _ _ _ => by omega) rfl
  have s13 : ∀ σ', Bd L σ' cK1 (rf_u2 (rf_u2 KK 103 0 0) 7 0 1) KK → rf_W l 7 13 [some (.inr (.inr (some (7, 0)))), none] [] σ' 1 12 Q := fun σ' h' => by
    refine rf_goW rf_mo_7 rf_T_7 40 [22] (And.intro ⟨by decide, by decide, by decide, by decide⟩ (s22 _ ?_))
    exact B_rp (b := 104) (k := 6) (j := 1) h' rfl (fun _ => rfl) (by decide) (Nat.le_refl _) (fun _ _ _ => by omega) rfl
  refine rf_goW rf_mo_7 rf_T_7 40 [13] (And.intro ⟨by decide, by decide, by decide, by decide⟩ (s13 _ ?_))
  exact B_rp (b := 103) (k := 12) (ab := 7) (ai := 0) (j := 0) (c := cK0) (N := KK) hb rfl (fun _ => rfl) (by decide) (Nat.le_refl _) (fun _ _ _ => by omega) rfl
end CD
