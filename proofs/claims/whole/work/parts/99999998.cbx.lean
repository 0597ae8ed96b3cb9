/-! where two pieces can be: the rows at the end of canBe -/
section QA
variable {P : Nat → Nat → Int32} {b ms : Nat → Int32} {x y : Int32} {t : Int32 × (Nat → Int32)}
def spc (x y q : Int32) : Prop := q = x ∨ q = y
theorem cb1_ne {k p : Nat} : ∀ n, k ≤ n → (∀ m, k ≤ m → m < n → ¬ spc x y (P 0 m) → ¬ nn (P 0 m) = p) → (cb1 P b ms x y t n).2 p = (cb1 P b ms x y t k).2 p
  | 0, hk, _ => by
    have : k = 0 := by omega
    subst this
    rfl
  | n + 1, hk, hm => by
    by_cases e : k = n + 1
    · subst e; rfl
    · have ih := cb1_ne (k := k) (p := p) n (by omega) (fun m h1 h2 => hm m h1 (by omega))
      rw [cb1]
      by_cases q : P 0 n = x ∨ P 0 n = y
      · rw [cif_t q]; exact ih
      · rw [cif_f q]
        show uf _ _ _ p = _
        unfold uf
        rw [if_neg (fun w => hm n (by omega) (by omega) q w.symm)]
        exact ih
theorem cb1_may {n m : Nat} (pn : pnOk P n) (hm : m < n) : mayG P b (cb1 P b ms x y t m).2 m ↔ mayG P b (cb1 P b ms x y t n).2 m := by
  unfold mayG
  by_cases e : P 3 m = -1
  · exact ⟨fun _ => Or.inl e, fun _ => Or.inl e⟩
  · have o := (pn m hm).2.2.2.1 e
    have o2 : nn (P 3 m) < m := o.2
    have ne := cb1_ne (P := P) (b := b) (ms := ms) (x := x) (y := y) (t := t) (k := m) (p := nn (P 0 (nn (P 3 m)))) n (by omega) (fun i h1 h2 _ w => by
      have := (pn (nn (P 3 m)) (by omega)).2.2.2.2 i h2 w
      omega)
    rw [ne]
theorem cb1_val {n m : Nat} (pn : pnOk P n) (hm : m < n) (hs : ¬ spc x y (P 0 m)) : (cb1 P b ms x y t n).2 (nn (P 0 m)) = cif (mayG P b (cb1 P b ms x y t n).2 m) (P 1 m) (ms (nn (P 0 m))) := by
  have ne := cb1_ne (P := P) (b := b) (ms := ms) (x := x) (y := y) (t := t) (k := m + 1) (p := nn (P 0 m)) n (by omega) (fun i h1 h2 _ w => by
    have := (pn m hm).2.2.2.2 i h2 w
    omega)
  rw [ne, cb1, cif_f (show ¬ (P 0 m = x ∨ P 0 m = y) from hs)]
  show uf _ _ _ _ = _
  unfold uf
  rw [if_pos rfl]
  exact cif_cg (cb1_may pn hm) rfl rfl
theorem cb1_fl {n : Nat} (pn : pnOk P n) : ∀ m, m ≤ n → (¬ (cb1 P b ms x y t m).1 = 0 ↔ ¬ t.1 = 0 ∧ ∀ i, i < m → spc x y (P 0 i) → (mayG P b (cb1 P b ms x y t n).2 i ∨ (cb1 P b ms x y t n).2 (nn (P 0 i)) = ms (nn (P 0 i))))
  | 0, _ => ⟨fun q => ⟨q, fun _ h => absurd h (by omega)⟩, fun q => q.1⟩
  | m + 1, hm => by
    have ih := cb1_fl pn m (by omega)
    rw [cb1]
    by_cases q : P 0 m = x ∨ P 0 m = y
    · rw [cif_t q]
      have ne := cb1_ne (P := P) (b := b) (ms := ms) (x := x) (y := y) (t := t) (k := m) (p := nn (P 0 m)) n (by omega) (fun i h1 h2 hs w => by
        have e := (pn m (by omega)).2.2.2.2 i h2 w
        subst e
        exact hs q)
      have mg := cb1_may (b := b) (ms := ms) (x := x) (y := y) (t := t) pn (show m < n by omega)
      have key : (¬ (cb1 P b ms x y t m).1 = 0 ∧ (mayG P b (cb1 P b ms x y t m).2 m ∨ (cb1 P b ms x y t m).2 (nn (P 0 m)) = ms (nn (P 0 m)))) ↔ (¬ t.1 = 0 ∧ ∀ i, i < m + 1 → spc x y (P 0 i) → (mayG P b (cb1 P b ms x y t n).2 i ∨ (cb1 P b ms x y t n).2 (nn (P 0 i)) = ms (nn (P 0 i)))) := by
        rw [ih, mg, ← ne]
        constructor
        · rintro ⟨⟨a1, a2⟩, a3⟩
          refine ⟨a1, fun i hi hs => ?_⟩
          by_cases e : i = m
          · subst e; exact a3
          · exact a2 i (by omega) hs
        · rintro ⟨a1, a2⟩
          exact ⟨⟨a1, fun i hi => a2 i (by omega)⟩, a2 m (by omega) q⟩
      rw [← key]
      show ¬ cif _ (1 : Int32) 0 = 0 ↔ _
      by_cases w : ¬ (cb1 P b ms x y t m).1 = 0 ∧ (mayG P b (cb1 P b ms x y t m).2 m ∨ (cb1 P b ms x y t m).2 (nn (P 0 m)) = ms (nn (P 0 m)))
      · rw [cif_t w]; exact ⟨fun _ => w, fun _ => by decide⟩
      · rw [cif_f w]; exact ⟨fun z => absurd rfl z, fun z => absurd z w⟩
    · rw [cif_f q]
      show ¬ (cb1 P b ms x y t m).1 = 0 ↔ _
      rw [ih]
      constructor
      · rintro ⟨a1, a2⟩
        refine ⟨a1, fun i hi hs => ?_⟩
        by_cases e : i = m
        · subst e; exact absurd hs q
        · exact a2 i (by omega) hs
      · rintro ⟨a1, a2⟩
        exact ⟨a1, fun i hi => a2 i (by omega)⟩
end QA
section QB
variable {P : Nat → Nat → Nat → Int32} {b : Nat → Nat → Int32} {n : Nat → Nat} {ms s : Nat → Int32} {a x y : Int32} {t : Int32 × (Nat → Int32)}
def act (s : Nat → Int32) (a : Int32) (d : Nat) : Prop := Int32.ofNat d = a ∨ bsy (s d)
/-- what is asked of the active cues -/
def acOk (P : Nat → Nat → Nat → Int32) (n : Nat → Nat) (s : Nat → Int32) (a : Int32) : Prop := (∀ d, d < 8 → act s a d → pnOk (P d) (n d)) ∧ ∀ d, d < 8 → act s a d → ∀ e, e < 8 → act s a e → ∀ m, m < n d → ∀ j, j < n e → nn (P d 0 m) = nn (P e 0 j) → d = e
theorem cb2_ne {k p : Nat} : ∀ c, k ≤ c → (∀ d, k ≤ d → d < c → act s a d → ∀ m, m < n d → ¬ spc x y (P d 0 m) → ¬ nn (P d 0 m) = p) → (cb2 P b n ms s a x y t c).2 p = (cb2 P b n ms s a x y t k).2 p
  | 0, hk, _ => by
    have : k = 0 := by omega
    subst this
    rfl
  | c + 1, hk, hm => by
    by_cases e : k = c + 1
    · subst e; rfl
    · have ih := cb2_ne (k := k) (p := p) c (by omega) (fun d h1 h2 => hm d h1 (by omega))
      rw [cb2]
      by_cases q : Int32.ofNat c = a ∨ bsy (s c)
      · rw [cif_t q, cb1_ne (k := 0) (n c) (by omega) (fun m _ h2 => hm c (by omega) (by omega) q m h2)]
        exact ih
      · rw [cif_f q]
        exact ih
/-- the row at the end is, at a cue's pieces, the row behind the cue -/
theorem cb2_at (ok : acOk P n s a) {d m : Nat} (hd : d < 8) (ha : act s a d) (hm : m < n d) : (cb2 P b n ms s a x y t 8).2 (nn (P d 0 m)) = (cb1 (P d) (b d) ms x y (cb2 P b n ms s a x y t d) (n d)).2 (nn (P d 0 m)) := by
  rw [cb2_ne (k := d + 1) 8 (by omega) (fun e h1 h2 he i hi _ w => by
    have := ok.2 e h2 he d hd ha i hi m hm w
    omega), cb2, cif_t (show Int32.ofNat d = a ∨ bsy (s d) from ha)]
theorem cb2_may (ok : acOk P n s a) {d m : Nat} (hd : d < 8) (ha : act s a d) (hm : m < n d) : mayG (P d) (b d) (cb1 (P d) (b d) ms x y (cb2 P b n ms s a x y t d) (n d)).2 m ↔ mayG (P d) (b d) (cb2 P b n ms s a x y t 8).2 m := by
  unfold mayG
  by_cases e : P d 3 m = -1
  · exact ⟨fun _ => Or.inl e, fun _ => Or.inl e⟩
  · have o := (ok.1 d hd ha m hm).2.2.2.1 e
    have o2 : nn (P d 3 m) < m := o.2
    rw [cb2_at ok hd ha (show nn (P d 3 m) < n d by omega)]
theorem cb2_val (ok : acOk P n s a) {d m : Nat} (hd : d < 8) (ha : act s a d) (hm : m < n d) (hs : ¬ spc x y (P d 0 m)) : (cb2 P b n ms s a x y t 8).2 (nn (P d 0 m)) = cif (mayG (P d) (b d) (cb2 P b n ms s a x y t 8).2 m) (P d 1 m) (ms (nn (P d 0 m))) := by
  rw [cb2_at ok hd ha hm, cb1_val (ok.1 d hd ha) hm hs]
  exact cif_cg (cb2_may ok hd ha hm) rfl rfl
theorem cb2_fl (ok : acOk P n s a) : ∀ c, c ≤ 8 → (¬ (cb2 P b n ms s a x y t c).1 = 0 ↔ ¬ t.1 = 0 ∧ ∀ d, d < c → act s a d → ∀ m, m < n d → spc x y (P d 0 m) → (mayG (P d) (b d) (cb2 P b n ms s a x y t 8).2 m ∨ (cb2 P b n ms s a x y t 8).2 (nn (P d 0 m)) = ms (nn (P d 0 m))))
  | 0, _ => ⟨fun q => ⟨q, fun _ h => absurd h (by omega)⟩, fun q => q.1⟩
  | c + 1, hc => by
    have ih := cb2_fl ok c (by omega)
    rw [cb2]
    by_cases q : Int32.ofNat c = a ∨ bsy (s c)
    · rw [cif_t q, cb1_fl (ok.1 c (by omega) q) (n c) (Nat.le_refl _), ih]
      constructor
      · rintro ⟨⟨a1, a2⟩, a3⟩
        refine ⟨a1, fun d hd ha m hm hs => ?_⟩
        by_cases e : d = c
        · subst e
          have := a3 m hm hs
          rw [cb2_may ok (by omega) ha hm, ← cb2_at ok (by omega) ha hm] at this
          exact this
        · exact a2 d (by omega) ha m hm hs
      · rintro ⟨a1, a2⟩
        refine ⟨⟨a1, fun d hd => a2 d (by omega)⟩, fun i hi hs => ?_⟩
        rw [cb2_may ok (by omega) q hi, ← cb2_at ok (by omega) q hi]
        exact a2 c (by omega) q i hi hs
    · rw [cif_f q, ih]
      constructor
      · rintro ⟨a1, a2⟩
        refine ⟨a1, fun d hd ha => ?_⟩
        by_cases e : d = c
        · subst e; exact absurd ha q
        · exact a2 d (by omega) ha
      · rintro ⟨a1, a2⟩
        exact ⟨a1, fun d hd => a2 d (by omega)⟩
/-- the furthest places, by the class's rows -/
theorem fm_cb {P : Nat → Nat → Int32} {b ms : Nat → Int32} {c : Int32} {t : (Nat → Int32) × (Nat → Int32) × (Nat → Int32)} {z : Int32} {n : Nat} (pn : pnOk P n) (h0 : ∀ j, j < n → t.2.2 (nn (P 0 j)) = ms (nn (P 0 j))) : ∀ m, m ≤ n → (fmR P b c t m).2.2 = (cb1 P b ms (-1) (-1) (z, t.2.2) m).2
  | 0, _ => rfl
  | m + 1, hm => by
    have ih := fm_cb (b := b) (c := c) (z := z) pn h0 m (by omega)
    have q0 := (pn m (by omega)).1
    have ns : ¬ (P 0 m = -1 ∨ P 0 m = -1) := by
      intro q
      have : P 0 m = -1 := q.elim id id
      rw [this] at q0
      exact absurd q0.1 (by decide)
    have same : (cb1 P b ms (-1) (-1) (z, t.2.2) m).2 (nn (P 0 m)) = ms (nn (P 0 m)) := by
      rw [cb1_ne (k := 0) m (by omega) (fun i _ h2 _ w => by
        have := (pn m (by omega)).2.2.2.2 i (by omega) w
        omega)]
      exact h0 m (by omega)
    rw [fmR, cb1, cif_f ns]
    show cif _ _ _ = uf _ _ _
    rw [ih]
    by_cases g : mayG P b (cb1 P b ms (-1) (-1) (z, t.2.2) m).2 m
    · rw [cif_t g, cif_t g]
    · rw [cif_f g, cif_f g, ← same, uf_id]
theorem fs_cb (ok : acOk P n s a) {t : (Nat → Int32) × (Nat → Int32) × (Nat → Int32)} {z : Int32} (h0 : ∀ p, p < 6 → t.2.2 p = ms p) : ∀ c, c ≤ 8 → (fsR P b n s a t c).2.2 = (cb2 P b n ms s a (-1) (-1) (z, t.2.2) c).2
  | 0, _ => rfl
  | c + 1, hc => by
    have ih := fs_cb (z := z) ok h0 c (by omega)
    rw [fsR, cb2]
    by_cases q : Int32.ofNat c = a ∨ bsy (s c)
    · rw [cif_t q, cif_t q]
      have h := fm_cb (P := P c) (b := b c) (ms := ms) (c := Int32.ofNat c) (t := fsR P b n s a t c) (z := (cb2 P b n ms s a (-1) (-1) (z, t.2.2) c).1) (n := n c) (ok.1 c (by omega) q) (fun j hj => by
        rw [ih, cb2_ne (k := 0) c (by omega) (fun d _ h2 hd i hi _ w => by
          have := ok.2 d (by omega) hd c (by omega) q i hi j hj w
          omega)]
        exact h0 _ (ok.1 c (by omega) q j hj).1.2) (n c) (Nat.le_refl _)
      rw [h, ih]
    · rw [cif_f q, cif_f q]
      exact ih
/-- the rows of movers -/
theorem fm_mv {P : Nat → Nat → Int32} {b : Nat → Int32} {c : Int32} {t : (Nat → Int32) × (Nat → Int32) × (Nat → Int32)} {n : Nat} (pn : pnOk P n) : ∀ m, m ≤ n → (∀ j, j < m → (fmR P b c t m).1 (nn (P 0 j)) = c ∧ (fmR P b c t m).2.1 (nn (P 0 j)) = Int32.ofNat j) ∧ ∀ p, (∀ j, j < m → ¬ nn (P 0 j) = p) → (fmR P b c t m).1 p = t.1 p ∧ (fmR P b c t m).2.1 p = t.2.1 p
  | 0, _ => ⟨fun _ h => absurd h (by omega), fun _ _ => ⟨rfl, rfl⟩⟩
  | m + 1, hm => by
    obtain ⟨i1, i2⟩ := fm_mv (b := b) (c := c) (t := t) pn m (by omega)
    rw [fmR]
    refine ⟨fun j hj => ?_, fun p hp => ?_⟩
    · show uf _ _ _ _ = c ∧ uf _ _ _ _ = _
      unfold uf
      by_cases e : nn (P 0 j) = nn (P 0 m)
      · have := (pn m (by omega)).2.2.2.2 j (by omega) e
        subst this
        rw [if_pos rfl, if_pos rfl]
        exact ⟨rfl, rfl⟩
      · rw [if_neg e, if_neg e]
        refine i1 j ?_
        have : ¬ j = m := fun w => e (by rw [w])
        omega
    · show uf _ _ _ p = _ ∧ uf _ _ _ p = _
      unfold uf
      have e : ¬ p = nn (P 0 m) := fun w => hp m (by omega) w.symm
      rw [if_neg e, if_neg e]
      exact i2 p fun j hj => hp j (by omega)
theorem fs_mv (ok : acOk P n s a) {t : (Nat → Int32) × (Nat → Int32) × (Nat → Int32)} : ∀ c, c ≤ 8 → (∀ d, d < c → act s a d → ∀ j, j < n d → (fsR P b n s a t c).1 (nn (P d 0 j)) = Int32.ofNat d ∧ (fsR P b n s a t c).2.1 (nn (P d 0 j)) = Int32.ofNat j) ∧ ∀ p, (∀ d, d < c → act s a d → ∀ j, j < n d → ¬ nn (P d 0 j) = p) → (fsR P b n s a t c).1 p = t.1 p
  | 0, _ => ⟨fun _ h => absurd h (by omega), fun _ _ => rfl⟩
  | c + 1, hc => by
    obtain ⟨i1, i2⟩ := fs_mv (t := t) ok c (by omega)
    rw [fsR]
    by_cases q : Int32.ofNat c = a ∨ bsy (s c)
    · rw [cif_t q]
      obtain ⟨g1, g2⟩ := fm_mv (b := b c) (c := Int32.ofNat c) (t := fsR P b n s a t c) (ok.1 c (by omega) q) (n c) (Nat.le_refl _)
      refine ⟨fun d hd ha j hj => ?_, fun p hp => ?_⟩
      · by_cases e : d = c
        · subst e; exact g1 j hj
        · obtain ⟨k1, k2⟩ := g2 (nn (P d 0 j)) (fun i hi w => e (ok.2 c (by omega) q d (by omega) ha i hi j hj w).symm)
          rw [k1, k2]
          exact i1 d (by omega) ha j hj
      · rw [(g2 p (fun j hj => hp c (by omega) q j hj)).1]
        exact i2 p fun d hd => hp d (by omega)
    · rw [cif_f q]
      refine ⟨fun d hd ha j hj => ?_, fun p hp => i2 p fun d hd => hp d (by omega)⟩
      by_cases e : d = c
      · subst e; exact absurd ha q
      · exact i1 d (by omega) ha j hj
end QB
