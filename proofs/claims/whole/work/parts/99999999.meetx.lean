/-! who could meet: one cue's chain, and two pieces on their ways -/
def IV (u v y : Int32) : Prop := (u.toInt ≤ y.toInt ∧ y.toInt ≤ v.toInt) ∨ (v.toInt ≤ y.toInt ∧ y.toInt ≤ u.toInt)
theorem rch_i {g b s w : Int32} : rchd g b s w ↔ (b.toInt ≤ g.toInt ∧ w.toInt ≤ s.toInt) ∨ (g.toInt < b.toInt ∧ s.toInt ≤ w.toInt) := by
  unfold rchd
  by_cases q : b ≤ g
  · rw [if_pos q]
    rw [Int32.le_iff_toInt_le] at q ⊢
    omega
  · rw [if_neg q]
    rw [Int32.le_iff_toInt_le] at q ⊢
    omega
section QC
variable {P : Nat → Nat → Int32} {b ms F X : Nat → Int32} {n : Nat} {α β : Int32}
def fxR (P : Nat → Nat → Int32) (b ms F : Nat → Int32) (n : Nat) : Prop := ∀ m, m < n → F (nn (P 0 m)) = cif (mayG P b F m) (P 1 m) (ms (nn (P 0 m)))
def xxR (P : Nat → Nat → Int32) (b ms X : Nat → Int32) (n : Nat) (α β : Int32) : Prop := ∀ m, m < n → ¬ spc α β (P 0 m) → X (nn (P 0 m)) = cif (mayG P b X m) (P 1 m) (ms (nn (P 0 m)))
theorem fx_or (hF : fxR P b ms F n) {m : Nat} (hm : m < n) : (mayG P b F m ∧ F (nn (P 0 m)) = P 1 m) ∨ (¬ mayG P b F m ∧ F (nn (P 0 m)) = ms (nn (P 0 m))) := by
  have := hF m hm
  by_cases q : mayG P b F m
  · rw [cif_t q] at this; exact Or.inl ⟨q, this⟩
  · rw [cif_f q] at this; exact Or.inr ⟨q, this⟩
theorem lA (pn : pnOk P n) (hB : ∀ m, m < n → IV (b m) (P 1 m) (ms (nn (P 0 m)))) (hF : fxR P b ms F n) (hX : xxR P b ms X n α β) : ∀ k m, m < k → m < n → (∀ i, i < m → spc α β (P 0 i) → IV (ms (nn (P 0 i))) (F (nn (P 0 i))) (X (nn (P 0 i)))) → mayG P b X m → mayG P b F m
  | 0, m, h, _, _, _ => absurd h (by omega)
  | k + 1, m, h, hm, hs, hx => by
    rcases hx with q | q
    · exact Or.inl q
    · by_cases e : P 3 m = -1
      · exact Or.inl e
      · refine Or.inr ?_
        have o := (pn m hm).2.2.2.1 e
        obtain ⟨j, hj⟩ : ∃ j, j = nn (P 3 m) := ⟨_, rfl⟩
        have jm : j < m := by rw [hj]; exact o.2
        rw [← hj] at q ⊢
        have iv := hB j (by omega)
        have fo := fx_or hF (show j < n by omega)
        rw [rch_i] at q ⊢
        unfold IV at iv
        by_cases sp : spc α β (P 0 j)
        · have ix := hs j jm sp
          unfold IV at ix
          rcases fo with ⟨_, f⟩ | ⟨_, f⟩
          · rw [f] at ix ⊢; omega
          · rw [f] at ix ⊢; omega
        · have xe := hX j (by omega) sp
          by_cases g : mayG P b X j
          · have gf := lA pn hB hF hX k j (by omega) (by omega) (fun i hi => hs i (by omega)) g
            rw [cif_t g] at xe
            rcases fo with ⟨_, f⟩ | ⟨f, _⟩
            · rw [f]
              rw [xe] at q
              exact q
            · exact absurd gf f
          · rw [cif_f g] at xe
            rw [xe] at q
            rcases fo with ⟨_, f⟩ | ⟨_, f⟩
            · rw [f]; omega
            · rw [f]; omega
theorem lS (pn : pnOk P n) (hB : ∀ m, m < n → IV (b m) (P 1 m) (ms (nn (P 0 m)))) (hF : fxR P b ms F n) (hX : xxR P b ms X n α β) (hr : ∀ m, m < n → spc α β (P 0 m) → IV (ms (nn (P 0 m))) (P 1 m) (X (nn (P 0 m)))) (hf : ∀ m, m < n → spc α β (P 0 m) → (mayG P b X m ∨ X (nn (P 0 m)) = ms (nn (P 0 m)))) : ∀ k m, m < k → m < n → spc α β (P 0 m) → IV (ms (nn (P 0 m))) (F (nn (P 0 m))) (X (nn (P 0 m)))
  | 0, m, h, _, _ => absurd h (by omega)
  | k + 1, m, h, hm, sp => by
    rcases hf m hm sp with q | q
    · have gf := lA pn hB hF hX (m + 1) m (by omega) hm (fun i hi si => lS pn hB hF hX hr hf k i (by omega) (by omega) si) q
      rcases fx_or hF hm with ⟨_, f⟩ | ⟨f, _⟩
      · rw [f]; exact hr m hm sp
      · exact absurd gf f
    · rw [q]
      unfold IV
      omega
theorem lB {t : Int32} (pn : pnOk P n) (hB : ∀ m, m < n → IV (b m) (P 1 m) (ms (nn (P 0 m)))) (hF : fxR P b ms F n) (hX : xxR P b ms X n α β) (hi : IV (ms (nn t)) (F (nn t)) (X (nn t))) : ∀ k m, m < k → m < n → (∀ i, i < m → spc α β (P 0 i) → P 0 i = t) → mayG P b F m → (mayG P b X m ↔ IV (lgF P b ms t (ms (nn t)) k m) (F (nn t)) (X (nn t))) ∧ IV (ms (nn t)) (F (nn t)) (lgF P b ms t (ms (nn t)) k m)
  | 0, m, h, _, _, _ => absurd h (by omega)
  | k + 1, m, h, hm, hs, gf => by
    have triv : IV (ms (nn t)) (F (nn t)) (ms (nn t)) := by unfold IV; omega
    rw [lgF]
    by_cases e : P 3 m = -1
    · rw [cif_t e]
      exact ⟨⟨fun _ => hi, fun _ => Or.inl e⟩, triv⟩
    · rw [cif_f e]
      have o := (pn m hm).2.2.2.1 e
      have gf' := gf.elim (fun q => absurd q e) id
      have mx : mayG P b X m ↔ rchd (P 1 (nn (P 3 m))) (b (nn (P 3 m))) (X (nn (P 0 (nn (P 3 m))))) (P 4 m) := ⟨fun q => q.elim (fun w => absurd w e) id, Or.inr⟩
      rw [mx]
      obtain ⟨j, hj⟩ : ∃ j, j = nn (P 3 m) := ⟨_, rfl⟩
      have jm : j < m := by rw [hj]; exact o.2
      rw [← hj] at gf' ⊢
      have iv := hB j (by omega)
      have fo := fx_or hF (show j < n by omega)
      unfold IV at iv
      by_cases r : rchd (P 1 j) (b j) (ms (nn (P 0 j))) (P 4 m)
      · rw [cif_t r]
        refine ⟨⟨fun _ => hi, fun _ => ?_⟩, triv⟩
        rw [rch_i] at r ⊢
        by_cases sp : spc α β (P 0 j)
        · have et := hs j jm sp
          rw [← et] at hi
          unfold IV at hi
          rcases fo with ⟨_, f⟩ | ⟨_, f⟩
          · rw [f] at hi; omega
          · rw [f] at hi; omega
        · have xe := hX j (by omega) sp
          by_cases g : mayG P b X j
          · rw [cif_t g] at xe; rw [xe]; omega
          · rw [cif_f g] at xe; rw [xe]; exact r
      · rw [cif_f r]
        rw [rch_i] at r gf'
        by_cases pt : P 0 j = t
        · rw [cif_t pt, rch_i, ← pt]
          rw [← pt] at hi
          unfold IV at hi ⊢
          rcases fo with ⟨_, f⟩ | ⟨_, f⟩
          · rw [f] at hi gf' ⊢
            omega
          · rw [f] at gf'
            exact absurd gf' r
        · rw [cif_f pt]
          have nsp : ¬ spc α β (P 0 j) := fun sp => pt (hs j jm sp)
          rcases fo with ⟨fg, f⟩ | ⟨_, f⟩
          · obtain ⟨i1, i2⟩ := lB pn hB hF hX hi k j (by omega) (by omega) (fun i hi' => hs i (by omega)) fg
            refine ⟨?_, i2⟩
            rw [← i1]
            have xe := hX j (by omega) nsp
            rw [f] at gf'
            by_cases g : mayG P b X j
            · rw [cif_t g] at xe
              rw [xe, rch_i]
              exact ⟨fun _ => g, fun _ => gf'⟩
            · rw [cif_f g] at xe
              rw [xe, rch_i]
              exact ⟨fun w => absurd w r, fun w => absurd w g⟩
          · rw [f] at gf'
            exact absurd gf' r
theorem lC {t here : Int32} (pn : pnOk P n) : ∀ k m, m < n → (∀ i, i < m → ¬ P 0 i = t) → lgF P b ms t here k m = here
  | 0, _, _, _ => rfl
  | k + 1, m, hm, hi => by
    rw [lgF]
    by_cases e : P 3 m = -1
    · rw [cif_t e]
    · rw [cif_f e]
      have o := (pn m hm).2.2.2.1 e
      have o2 : nn (P 3 m) < m := o.2
      by_cases r : rchd (P 1 (nn (P 3 m))) (b (nn (P 3 m))) (ms (nn (P 0 (nn (P 3 m))))) (P 4 m)
      · rw [cif_t r]
      · rw [cif_f r, cif_f (hi _ o2)]
        exact lC pn k (nn (P 3 m)) (by omega) (fun i hi' => hi i (by omega))
end QC
/-- between, in whole numbers -/
def iz (u v y : Int) : Prop := (u ≤ y ∧ y ≤ v) ∨ (v ≤ y ∧ y ≤ u)
def oz (ha hb x y : Int) : Prop := x - ha < y ∧ y - hb < x
/-- two pieces on their ways: the strict order decides -/
theorem two {za fa zb fb va vb ha hb : Int} {S : Int → Int → Prop} (h1 : ∀ x y, iz za fa x → iz zb fb y → (S x y ↔ (x = za ∨ iz vb fb y) ∧ (y = zb ∨ iz va fa x))) (h2 : ¬ fb = zb → iz za fa va) (h3 : ¬ fa = za → iz zb fb vb) (h4 : va = za ∨ vb = zb) :
    (∃ x y, iz za fa x ∧ iz zb fb y ∧ S x y ∧ oz ha hb x y) ↔ ((∃ x, iz za fa x ∧ oz ha hb x zb) ∨ (¬ fb = zb ∧ ∃ x y, iz va fa x ∧ iz zb fb y ∧ oz ha hb x y)) ∧ ((∃ y, iz zb fb y ∧ oz ha hb za y) ∨ (¬ fa = za ∧ ∃ x y, iz vb fb y ∧ iz za fa x ∧ oz ha hb x y)) := by
  constructor
  · rintro ⟨x, y, ix, iy, s, o⟩
    obtain ⟨s1, s2⟩ := (h1 x y ix iy).mp s
    refine ⟨?_, ?_⟩
    · by_cases e : y = zb
      · subst e; exact Or.inl ⟨x, ix, o⟩
      · refine Or.inr ⟨?_, x, y, s2.elim (fun q => absurd q e) id, iy, o⟩
        unfold iz at iy
        omega
    · by_cases e : x = za
      · subst e; exact Or.inl ⟨y, iy, o⟩
      · refine Or.inr ⟨?_, x, y, s1.elim (fun q => absurd q e) id, ix, o⟩
        unfold iz at ix
        omega
  · rintro ⟨ab, ba⟩
    have tz : ∀ u v : Int, iz u v u := fun u v => by unfold iz; omega
    rcases h4 with e | e
    · subst e
      rcases ba with ⟨y, iy, o⟩ | ⟨f, x, y, iy, ix, o⟩
      · exact ⟨va, y, tz _ _, iy, (h1 va y (tz _ _) iy).mpr ⟨Or.inl rfl, Or.inr (tz _ _)⟩, o⟩
      · have iy' : iz zb fb y := by
          have := h3 f
          unfold iz at this iy ⊢
          omega
        exact ⟨x, y, ix, iy', (h1 x y ix iy').mpr ⟨Or.inr iy, Or.inr ix⟩, o⟩
    · subst e
      rcases ab with ⟨x, ix, o⟩ | ⟨f, x, y, ix, iy, o⟩
      · exact ⟨x, vb, ix, tz _ _, (h1 x vb ix (tz _ _)).mpr ⟨Or.inr (tz _ _), Or.inl rfl⟩, o⟩
      · have ix' : iz za fa x := by
          have := h2 f
          unfold iz at this ix ⊢
          omega
        exact ⟨x, y, ix', iy, (h1 x y ix' iy).mpr ⟨Or.inr iy, Or.inr ix⟩, o⟩
theorem hz_ex {a b c d ha hb : Int} (h1 : 1 ≤ ha) (h2 : 1 ≤ hb) : (min a b - ha < max c d ∧ min c d - hb < max a b) ↔ ∃ x y, iz a b x ∧ iz c d y ∧ oz ha hb x y := by
  unfold iz oz
  constructor
  · intro q
    by_cases e1 : max c d < min a b
    · exact ⟨min a b, max c d, by omega, by omega, by omega⟩
    · by_cases e2 : max a b < min c d
      · exact ⟨max a b, min c d, by omega, by omega, by omega⟩
      · exact ⟨max (min a b) (min c d), max (min a b) (min c d), by omega, by omega, by omega⟩
  · rintro ⟨x, y, hx, hy, ho⟩
    omega
