/-! a tick of the cues -/
section LC
variable {l : Launch} {Q : rf_O → rf_S → Prop} {L : Nat} {I : Nat → Nat → Nat → Int32} {J : Nat → Nat → Nat → Int64} {σ : rf_S}
theorem u3_b {b i j b' : Nat} {x : Int32} (h : ¬ b' = b) : rf_u3 I b i j x b' = I b' := by
  funext y f
  simp [rf_u3, h]
theorem u3_f {b i j f : Nat} {x : Int32} (h : ¬ f = j) (i' : Nat) : rf_u3 I b i j x b i' f = I b i' f := by simp [rf_u3, h]
theorem u3_id {b i j : Nat} : rf_u3 I b i j (I b i j) = I := by
  funext y z f
  by_cases h : y = b ∧ z = i ∧ f = j
  · obtain ⟨rfl, rfl, rfl⟩ := h; simp [rf_u3]
  · simp [rf_u3, h]
theorem u3_u3 {b i j : Nat} {x y : Int32} : rf_u3 (rf_u3 I b i j x) b i j y = rf_u3 I b i j y := by
  funext b' i' f
  by_cases h : b' = b ∧ i' = i ∧ f = j <;> simp [rf_u3, h]
theorem u3_ms2 {i b j k : Nat} {x : Int32} {a v : Nat → Int32} (h : ¬ b = 100) : rf_u3 (ms2 I i a v) b j k x = ms2 (rf_u3 I b j k x) i a v := by
  funext b' i' f
  by_cases h1 : b' = b
  · subst h1
    simp [rf_u3, ms2, ro, h]
  · simp [rf_u3, ms2, ro, h1]
theorem c_stopCue {c : Nat} (hn : ok (I 1 c 1) 5) (hp : ∀ j, j < nn (I 1 c 1) → ok (I 5 (4 * c + j) 0) 6)
    (hq : Q (.inl none) (sS L (ro (rf_u3 I 1 c 3 5) 100 1 (stR (pP I c 0) (I 100 1) (nn (I 1 c 1)))) J)) : rf_C l 98 [.inr (.inr (some (7, 0))), .inr (.inr (some (1, c)))] (sS L I J) Q := by
  apply rf_C.ofW
  have e1 : rf_u3 I 1 c 3 5 1 c 1 = I 1 c 1 := u3_f (by decide) c
  have e5 : rf_u3 I 1 c 3 5 5 = I 5 := u3_b (by decide)
  have e100 : rf_u3 I 1 c 3 5 100 = I 100 := u3_b (by decide)
  refine rf_goW rf_mo_98 rf_T_98 20 [] (And.intro ⟨by decide, by decide⟩ (c_stand (I := rf_u3 I 1 c 3 5) (i := 0) (by decide) (by rw [e1]; exact hn) (fun j hj => by rw [e1] at hj; rw [e5]; exact hp j hj) ?_))
  unfold pP
  rw [e1, e5, e100]
  exact hq
/-- a tick of a cue: its state, the rows of places and speeds -/
noncomputable def rcR (P : Nat → Nat → Int32) (b : Nat → Int32) (h : Int32) (n : Nat) (x : Int32) (s : (Nat → Int32) × (Nat → Int32)) : Int32 × (Nat → Int32) × (Nat → Int32) :=
  cif (∀ j, j < n → (advR P b h s n).1 (nn (P 0 j)) = P 1 j) (4, (advR P b h s n).1, stR (P 0) (advR P b h s n).2 n)
    (cif (h = 0 ∧ ∀ j, j < n → (advR P b h s n).2 (nn (P 0 j)) = 0) (3, advR P b h s n) (x, advR P b h s n))
theorem c_runCue {c : Nat} {h : Int32} (hc : plOk I c) (hv : ∀ p, p < 6 → ok (I 100 1 p) 13)
    (hq : ∀ r, r = rcR (pP I c) (bgR I 0 c) h (nn (I 1 c 1)) (I 1 c 3) (I 100 0, I 100 1) → Q (.inl none) (sS L (ms2 (rf_u3 I 1 c 3 r.1) 0 r.2.1 r.2.2) J)) : rf_C l 110 [.inr (.inr (some (7, 0))), .inr (.inr (some (1, c))), .inl h] (sS L I J) Q := by
  apply rf_C.ofW
  refine rf_goW rf_mo_110 rf_T_110 60 [] (And.intro ⟨by decide, by decide⟩ (c_advance (i := 0) (by decide) hc hv (fun s hs => ?_)))
  have e1 : ms2 I 0 s.1 s.2 1 = I 1 := ms2_b (by decide)
  have e5 : ms2 I 0 s.1 s.2 5 = I 5 := ms2_b (by decide)
  have ea : ms2 I 0 s.1 s.2 100 0 = s.1 := ms2_a (i := 0)
  have ev : ms2 I 0 s.1 s.2 100 1 = s.2 := ms2_v (i := 0)
  have hn' : ok (ms2 I 0 s.1 s.2 1 c 1) 5 := by rw [e1]; exact hc.1
  have hp' : ∀ j, j < nn (ms2 I 0 s.1 s.2 1 c 1) → ok (ms2 I 0 s.1 s.2 5 (4 * c + j) 0) 6 := by rw [e1, e5]; exact fun j hj => (hc.2 j hj).1
  have hs' : s = advR (pP I c) (bgR I 0 c) h (I 100 0, I 100 1) (nn (I 1 c 1)) := hs
  refine And.intro ⟨by decide, by decide⟩ (c_areAtGoals (a := 0) (by decide) hn' hp' (fun hg => br_eq1 ?_) (fun hg => br_eq0 ?_))
  · have hg' : ∀ j, j < nn (I 1 c 1) → s.1 (nn (pP I c 0 j)) = pP I c 1 j := by
      intro j hj
      have := hg j (by rw [e1]; exact hj)
      unfold atG at this
      rw [e5, show ms2 I 0 s.1 s.2 100 (3 * 0) = s.1 from ms2_a] at this
      exact this
    have hq' := hq _ rfl
    rw [rcR, ← hs', cif_t hg'] at hq'
    have e1' : rf_u3 (ms2 I 0 s.1 s.2) 1 c 3 4 1 c 1 = I 1 c 1 := by rw [u3_f (by decide) c, e1]
    have e5' : rf_u3 (ms2 I 0 s.1 s.2) 1 c 3 4 5 = I 5 := by rw [u3_b (by decide), e5]
    refine And.intro ⟨by decide, by decide⟩ (c_stand (I := rf_u3 (ms2 I 0 s.1 s.2) 1 c 3 4) (i := 0) (by decide) (by rw [e1']; exact hc.1) (fun j hj => by rw [e1'] at hj; rw [e5']; exact (hc.2 j hj).1) ?_)
    refine eqS (Q := Q) ?_ hq'
    unfold pP
    rw [e1', e5', u3_ms2 (by decide)]
    show sS L (ro (ms2 (rf_u3 I 1 c 3 4) 0 s.1 s.2) 100 1 (stR _ (ms2 (rf_u3 I 1 c 3 4) 0 s.1 s.2 100 1) _)) J = _
    rw [show ms2 (rf_u3 I 1 c 3 4) 0 s.1 s.2 100 1 = s.2 from ms2_v (i := 0), ms2, ro_comm (by decide), ro_ro, ms2]
  · have hg' : ¬ ∀ j, j < nn (I 1 c 1) → s.1 (nn (pP I c 0 j)) = pP I c 1 j := by
      intro q
      refine hg fun j hj => ?_
      unfold atG
      rw [e5, show ms2 I 0 s.1 s.2 100 (3 * 0) = s.1 from ms2_a]
      rw [e1] at hj
      exact q j hj
    have hq' := hq _ rfl
    rw [rcR, ← hs', cif_f hg'] at hq'
    refine And.intro (fun hh => ?_) (fun hh => ?_)
    · rw [cif_f (fun q => hh q.1)] at hq'
      rw [u3_id] at hq'
      exact hq'
    · refine And.intro ⟨by decide, by decide⟩ (c_areStanding (a := 0) (by decide) hn' hp' (fun hz => br_eq1 ?_) (fun hz => br_eq0 ?_))
      · have hz' : ∀ j, j < nn (I 1 c 1) → s.2 (nn (pP I c 0 j)) = 0 := by
          intro j hj
          have := hz j (by rw [e1]; exact hj)
          unfold stG at this
          rw [e5, show ms2 I 0 s.1 s.2 100 (3 * 0 + 1) = s.2 from ms2_v] at this
          exact this
        rw [cif_t ⟨hh, hz'⟩] at hq'
        refine eqS (Q := Q) ?_ hq'
        show sS L (rf_u3 (ms2 I 0 s.1 s.2) 1 c 3 3) J = _
        rw [u3_ms2 (by decide)]
      · have hz' : ¬ (h = 0 ∧ ∀ j, j < nn (I 1 c 1) → s.2 (nn (pP I c 0 j)) = 0) := by
          intro q
          refine hz fun j hj => ?_
          unfold stG
          rw [e5, show ms2 I 0 s.1 s.2 100 (3 * 0 + 1) = s.2 from ms2_v]
          rw [e1] at hj
          exact q.2 j hj
        rw [cif_f hz', u3_id] at hq'
        exact hq'
theorem stR_v {P v : Nat → Int32} {n : Nat} (hv : ∀ p, p < 6 → ok (v p) 13) : ∀ m, m ≤ n → ∀ p, p < 6 → ok (stR P v m p) 13
  | 0, _, p, hp => hv p hp
  | m + 1, hm, p, hp => by
    rw [stR, uf]
    split
    · exact ⟨by decide, by decide⟩
    · exact stR_v (n := n) hv m (by omega) p hp
theorem rcR_v {P : Nat → Nat → Int32} {b : Nat → Int32} {h x : Int32} {s : (Nat → Int32) × (Nat → Int32)} {n : Nat} (hv : ∀ p, p < 6 → ok (s.2 p) 13) (hP : ∀ m, m < n → ok (P 0 m) 6 ∧ ok (P 2 m) 13) : ∀ p, p < 6 → ok ((rcR P b h n x s).2.2 p) 13 := by
  have ha := advR_v (b := b) (h := h) hv hP n (Nat.le_refl _)
  unfold rcR
  by_cases h1 : ∀ j, j < n → (advR P b h s n).1 (nn (P 0 j)) = P 1 j
  · rw [cif_t h1]
    exact stR_v (n := n) ha n (Nat.le_refl _)
  · rw [cif_f h1]
    by_cases h2 : h = 0 ∧ ∀ j, j < n → (advR P b h s n).2 (nn (P 0 j)) = 0
    · rw [cif_t h2]; exact ha
    · rw [cif_f h2]; exact ha
/-- the states of the desk's cues anew -/
def stI (I : Nat → Nat → Nat → Int32) (x : Nat → Int32) : Nat → Nat → Nat → Int32 := fun b i f => if b = 1 ∧ 40 ≤ i ∧ i < 48 ∧ f = 3 then x (i - 40) else I b i f
def stX (I : Nat → Nat → Nat → Int32) : Nat → Int32 := fun c => I 1 (40 + c) 3
theorem stI_b {b : Nat} {x : Nat → Int32} (h : ¬ b = 1) : stI I x b = I b := by
  funext y f
  simp [stI, h]
theorem stI_f {i f : Nat} {x : Nat → Int32} (h : ¬ f = 3) : stI I x 1 i f = I 1 i f := by simp [stI, h]
theorem stI_x {c : Nat} {x : Nat → Int32} (h : c < 8) : stI I x 1 (40 + c) 3 = x c := by
  have h1 : 40 + c < 48 := by omega
  have h2 : 40 + c - 40 = c := by omega
  simp [stI, h1, h2]
theorem stI_id : stI I (stX I) = I := by
  funext b i f
  by_cases h : b = 1 ∧ 40 ≤ i ∧ i < 48 ∧ f = 3
  · obtain ⟨rfl, h2, h3, rfl⟩ := h
    have : 40 + (i - 40) = i := by omega
    simp [stI, stX, h2, h3, this]
  · simp [stI, h]
theorem stI_u3 {c : Nat} {x : Nat → Int32} {y : Int32} (h : c < 8) : rf_u3 (stI I x) 1 (40 + c) 3 y = stI I (uf x c y) := by
  funext b i f
  by_cases h1 : b = 1 ∧ f = 3
  · obtain ⟨rfl, rfl⟩ := h1
    by_cases h2 : i = 40 + c
    · subst h2
      have h3 : 40 + c < 48 := by omega
      have h4 : 40 + c - 40 = c := by omega
      simp [rf_u3, stI, uf, h3, h4]
    · by_cases h3 : 40 ≤ i ∧ i < 48
      · have h4 : ¬ i - 40 = c := by omega
        simp [rf_u3, stI, uf, h2, h3, h4]
      · have h4 : ¬ (40 ≤ i ∧ i < 48) := h3
        simp [rf_u3, stI, h2, h4]
  · have h2 : ¬ (b = 1 ∧ i = 40 + c ∧ f = 3) := fun q => h1 ⟨q.1, q.2.2⟩
    have h3 : ¬ (b = 1 ∧ 40 ≤ i ∧ i < 48 ∧ f = 3) := fun q => h1 ⟨q.1, q.2.2.2⟩
    rw [rf_u3, if_neg h2, stI, if_neg h3, stI, if_neg h3]
def cs3 (I : Nat → Nat → Nat → Int32) (t : (Nat → Int32) × (Nat → Int32) × (Nat → Int32)) : Nat → Nat → Nat → Int32 := ms2 (stI I t.1) 0 t.2.1 t.2.2
theorem cs3_id : cs3 I (stX I, I 100 0, I 100 1) = I := by
  show ms2 (stI I (stX I)) 0 (I 100 0) (I 100 1) = I
  rw [stI_id]
  exact ms2_id
theorem cs3_b {b : Nat} {t : (Nat → Int32) × (Nat → Int32) × (Nat → Int32)} (h : ¬ b = 1) (h' : ¬ b = 100) : cs3 I t b = I b := by rw [cs3, ms2_b h', stI_b h]
theorem cs3_1 {i f : Nat} {t : (Nat → Int32) × (Nat → Int32) × (Nat → Int32)} (h : ¬ f = 3) : cs3 I t 1 i f = I 1 i f := by rw [cs3, ms2_b (by decide), stI_f h]
theorem cs3_x {c : Nat} {t : (Nat → Int32) × (Nat → Int32) × (Nat → Int32)} (h : c < 8) : cs3 I t 1 (40 + c) 3 = t.1 c := by rw [cs3, ms2_b (by decide), stI_x h]
theorem cs3_a {t : (Nat → Int32) × (Nat → Int32) × (Nat → Int32)} : cs3 I t 100 0 = t.2.1 := ms2_a (i := 0)
theorem cs3_v {t : (Nat → Int32) × (Nat → Int32) × (Nat → Int32)} : cs3 I t 100 1 = t.2.2 := ms2_v (i := 0)
theorem cs3_o {k : Nat} {t : (Nat → Int32) × (Nat → Int32) × (Nat → Int32)} (h1 : ¬ k = 0) (h2 : ¬ k = 1) : cs3 I t 100 k = I 100 k := by rw [cs3, ms2_o (by omega) (by omega), stI_b (by decide)]
theorem cs3_set {c : Nat} {y : Int32} {a v : Nat → Int32} {t : (Nat → Int32) × (Nat → Int32) × (Nat → Int32)} (h : c < 8) : ms2 (rf_u3 (cs3 I t) 1 (40 + c) 3 y) 0 a v = cs3 I (uf t.1 c y, a, v) := by
  rw [cs3, u3_ms2 (by decide), ms2_2, stI_u3 h]
  rfl
/-- a tick of the first c cues -/
noncomputable def rcsR (P : Nat → Nat → Nat → Int32) (b : Nat → Nat → Int32) (h : Nat → Int32) (n : Nat → Nat) (t : (Nat → Int32) × (Nat → Int32) × (Nat → Int32)) : Nat → (Nat → Int32) × (Nat → Int32) × (Nat → Int32)
  | 0 => t
  | c + 1 => cif ((rcsR P b h n t c).1 c = 2) (uf (rcsR P b h n t c).1 c (rcR (P c) (b c) (h c) (n c) ((rcsR P b h n t c).1 c) (rcsR P b h n t c).2).1, (rcR (P c) (b c) (h c) (n c) ((rcsR P b h n t c).1 c) (rcsR P b h n t c).2).2) (rcsR P b h n t c)
theorem rcsR_v {P : Nat → Nat → Nat → Int32} {b : Nat → Nat → Int32} {h : Nat → Int32} {n : Nat → Nat} {t : (Nat → Int32) × (Nat → Int32) × (Nat → Int32)} (hv : ∀ p, p < 6 → ok (t.2.2 p) 13) (hP : ∀ c, c < 8 → ∀ m, m < n c → ok (P c 0 m) 6 ∧ ok (P c 2 m) 13) : ∀ c, c ≤ 8 → ∀ p, p < 6 → ok ((rcsR P b h n t c).2.2 p) 13
  | 0, _, p, hp => hv p hp
  | c + 1, hc, p, hp => by
    have ih := rcsR_v (b := b) (h := h) hv hP c (by omega)
    rw [rcsR]
    by_cases h1 : (rcsR P b h n t c).1 c = 2
    · rw [cif_t h1]
      exact rcR_v ih (hP c (by omega)) p hp
    · rw [cif_f h1]
      exact ih p hp
def kP (I : Nat → Nat → Nat → Int32) (c : Nat) : Nat → Nat → Int32 := pP I (40 + c)
def kB (I : Nat → Nat → Nat → Int32) (c : Nat) : Nat → Int32 := bgR I 0 (40 + c)
def kH (I : Nat → Nat → Nat → Int32) (c : Nat) : Int32 := I 101 0 (nn (I 1 (40 + c) 2))
def kN (I : Nat → Nat → Nat → Int32) (c : Nat) : Nat := nn (I 1 (40 + c) 1)
theorem c_runCues (hc : ∀ c, c < 8 → plOk I (40 + c) ∧ ok (I 1 (40 + c) 2) 3) (hv : ∀ p, p < 6 → ok (I 100 1 p) 13)
    (hq : ∀ t, t = rcsR (kP I) (kB I) (kH I) (kN I) (stX I, I 100 0, I 100 1) 8 → Q (.inl none) (sS L (cs3 I t) J)) : rf_C l 111 [.inr (.inr (some (7, 0)))] (sS L I J) Q := by
  apply rf_C.ofW
  refine rf_goW rf_mo_111 rf_T_111 12 [10] ?_
  have key : ∀ c, c ≤ 8 → ∀ t, t = rcsR (kP I) (kB I) (kH I) (kN I) (stX I, I 100 0, I 100 1) c → rf_W l 111 10 [some (.inr (.inr (some (7, 0)))), some (.inr (.inr (some (105, 0)))), some (.inl (Int32.ofNat 8)), some (.inl (Int32.ofNat c)), none] [] (sS L (cs3 I t) J) 0 0 Q := by
    refine lp_dn ?_ ?_
    · intro t ht
      exact rf_goW rf_mo_111 rf_T_111 60 [10] (And.intro (fun _ => hq t ht) (fun hd => absurd (Int32.le_refl _) hd))
    · intro c hi ih t ht
      rw [← nt_succ c] at ih
      have e5 : cs3 I t 5 = I 5 := cs3_b (by decide) (by decide)
      have e101 : cs3 I t 101 = I 101 := cs3_b (by decide) (by decide)
      refine rf_goW rf_mo_111 rf_T_111 60 [10] (And.intro (fun hd => absurd ((nt_le (i := 8) (by omega) (by omega)).mp hd) (by omega)) (fun _ => And.intro (nt_ix (n := 8) hi (by decide)) ?_))
      rw [nt_cl (by omega)]
      have ex : cs3 I t 1 (40 + c) 3 = t.1 c := cs3_x hi
      have e2 : cs3 I t 1 (40 + c) 2 = I 1 (40 + c) 2 := cs3_1 (by decide)
      have e1 : cs3 I t 1 (40 + c) 1 = I 1 (40 + c) 1 := cs3_1 (by decide)
      refine And.intro (fun hs => ?_) (fun hs => ?_)
      · have hs' : ¬ t.1 c = 2 := by rw [← ex]; exact hs
        refine fgt (ih t ?_) (by repeat (first | exact True.intro | refine And.intro rfl ?_))
        rw [rcsR, ← ht, cif_f hs']
      · have hs' : t.1 c = 2 := by rw [← ex]; exact hs
        refine And.intro (show ok (cs3 I t 1 (40 + c) 2) 3 by rw [e2]; exact (hc c hi).2) (And.intro ⟨by decide, by decide⟩ (c_runCue (I := cs3 I t) ?_ ?_ ?_))
        · unfold plOk
          rw [e1, e5]
          exact (hc c hi).1
        · rw [cs3_v]
          intro p hp
          rw [ht]
          exact rcsR_v (P := kP I) (b := kB I) (h := kH I) (n := kN I) hv (fun c' hc' m hm => ⟨((hc c' hc').1.2 m hm).1, ((hc c' hc').1.2 m hm).2.1⟩) c (by omega) p hp
        · intro r hr
          have hr' : r = rcR (kP I c) (kB I c) (kH I c) (kN I c) (t.1 c) t.2 := by
            rw [hr]
            show rcR (pP (cs3 I t) (40 + c)) (bgR (cs3 I t) 0 (40 + c)) (cs3 I t 101 0 (nn (cs3 I t 1 (40 + c) 2))) (nn (cs3 I t 1 (40 + c) 1)) (cs3 I t 1 (40 + c) 3) (cs3 I t 100 0, cs3 I t 100 1) = _
            unfold pP bgR
            rw [e5, e101, e1, e2, ex, cs3_a, cs3_v, cs3_o (by decide) (by decide)]
            rfl
          rw [cs3_set hi]
          refine fgt (ih _ ?_) (by repeat (first | exact True.intro | refine And.intro rfl ?_))
          rw [rcsR, ← ht, cif_t hs', ← hr']
  have k0 := key 0 (by omega) _ rfl
  rw [rcsR, cs3_id] at k0
  exact k0
end LC
