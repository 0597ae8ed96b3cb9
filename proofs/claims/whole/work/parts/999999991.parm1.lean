/-! arming: class rows and model rows -/
section QE
variable {I M A B N K : Nat → Nat → Nat → Int32}
theorem fmR_cg {P P' : Nat → Nat → Int32} {b b' : Nat → Int32} {c : Int32} {t : (Nat → Int32) × (Nat → Int32) × (Nat → Int32)} {n : Nat} (hP : ∀ f m, f < 5 → m < n → P f m = P' f m) (hb : ∀ m, m < n → b m = b' m) (hk : pOk P' n) : ∀ m, m ≤ n → fmR P b c t m = fmR P' b' c t m
  | 0, _ => rfl
  | m + 1, hm => by
    have ih := fmR_cg (c := c) (t := t) hP hb hk m (by omega)
    rw [fmR, fmR, ih, hP 0 m (by decide) (by omega), hP 1 m (by decide) (by omega)]
    have := cif_cg (a := uf (fmR P' b' c t m).2.2 (nn (P' 0 m)) (P' 1 m)) (a' := uf (fmR P' b' c t m).2.2 (nn (P' 0 m)) (P' 1 m)) (b := (fmR P' b' c t m).2.2) (b' := (fmR P' b' c t m).2.2) (mayG_cg2 (a := (fmR P' b' c t m).2.2) (a' := (fmR P' b' c t m).2.2) hP hb hk (fun _ _ => rfl) (show m < n by omega)) rfl rfl
    rw [this]
theorem fsR_cg {P P' : Nat → Nat → Nat → Int32} {b b' : Nat → Nat → Int32} {n n' : Nat → Nat} {s s' : Nat → Int32} {r : Int32} {t : (Nat → Int32) × (Nat → Int32) × (Nat → Int32)} (hs : ∀ d, d < 8 → s d = s' d) (hn : ∀ d, d < 8 → n d = n' d) (hP : ∀ d, d < 8 → ∀ f m, f < 5 → m < n' d → P d f m = P' d f m) (hb : ∀ d, d < 8 → act s' r d → ∀ m, m < n' d → b d m = b' d m) (hk : ∀ d, d < 8 → pOk (P' d) (n' d)) : ∀ c, c ≤ 8 → fsR P b n s r t c = fsR P' b' n' s' r t c
  | 0, _ => rfl
  | c + 1, hc => by
    have ih := fsR_cg (t := t) hs hn hP hb hk c (by omega)
    rw [fsR, fsR, ih, hs c (by omega), hn c (by omega)]
    by_cases q : Int32.ofNat c = r ∨ bsy (s' c)
    · rw [cif_t q, cif_t q, fmR_cg (hP c (by omega)) (hb c (by omega) q) (hk c (by omega)) (n' c) (Nat.le_refl _)]
    · rw [cif_f q, cif_f q]
theorem lgF_cg {P P' : Nat → Nat → Int32} {b b' a : Nat → Int32} {w here : Int32} {n : Nat} (hP : ∀ f m, f < 5 → m < n → P f m = P' f m) (hb : ∀ m, m < n → b m = b' m) (hk : pOk P' n) : ∀ k m, m < n → lgF P b a w here k m = lgF P' b' a w here k m
  | 0, _, _ => rfl
  | k + 1, m, hm => by
    rw [lgF, lgF, hP 3 m (by decide) hm]
    by_cases e : P' 3 m = -1
    · rw [cif_t e, cif_t e]
    · rw [cif_f e, cif_f e]
      have o := (hk m hm).2 e
      have o2 : nn (P' 3 m) < n := by have : nn (P' 3 m) < m := o.2
                                      omega
      rw [hP 1 _ (by decide) o2, hP 0 _ (by decide) o2, hP 4 m (by decide) hm, hb _ o2, lgF_cg hP hb hk k _ o2]
theorem bgF_ne {P a b : Nat → Int32} {p : Nat} : ∀ n, (∀ j, j < n → ¬ nn (P j) = p) → bgF P a b n p = b p
  | 0, _ => rfl
  | n + 1, h => by
    rw [bgF]
    unfold uf
    rw [if_neg (fun q => h n (by omega) q.symm)]
    exact bgF_ne n fun j hj => h j (by omega)
theorem mn_t {x y : Int32} : (mn x y).toInt = min x.toInt y.toInt := by
  unfold mn
  by_cases q : y < x
  · rw [if_pos q]
    rw [Int32.lt_iff_toInt_lt] at q
    omega
  · rw [if_neg q]
    rw [Int32.lt_iff_toInt_lt] at q
    omega
theorem mx_t {x y : Int32} : (mx x y).toInt = max x.toInt y.toInt := by
  unfold mx
  by_cases q : x < y
  · rw [if_pos q]
    rw [Int32.lt_iff_toInt_lt] at q
    omega
  · rw [if_neg q]
    rw [Int32.lt_iff_toInt_lt] at q
    omega
theorem hei_z {i j : Nat} {p q r s : Int32} (hp : pl p) (hq : pl q) (hr : pl r) (hs : pl s) (h1 : 1 ≤ A 0 i 4 ∧ A 0 i 4 ≤ 40) (h2 : 1 ≤ A 0 j 4 ∧ A 0 j 4 ≤ 40) : hei A i j p q r s ↔ ∃ x y, iz p.toInt q.toInt x ∧ iz r.toInt s.toInt y ∧ oz (A 0 i 4).toInt (A 0 j 4).toInt x y := by
  have a1 := pl_i hp
  have a2 := pl_i hq
  have a3 := pl_i hr
  have a4 := pl_i hs
  have z1 : (1 : Int32).toInt = 1 := rfl
  have z40 : (40 : Int32).toInt = 40 := rfl
  have b1 : 1 ≤ (A 0 i 4).toInt ∧ (A 0 i 4).toInt ≤ 40 := by
    obtain ⟨u, v⟩ := h1
    rw [Int32.le_iff_toInt_le] at u v
    exact ⟨u, v⟩
  have b2 : 1 ≤ (A 0 j 4).toInt ∧ (A 0 j 4).toInt ≤ 40 := by
    obtain ⟨u, v⟩ := h2
    rw [Int32.le_iff_toInt_le] at u v
    exact ⟨u, v⟩
  rw [← hz_ex b1.1 b2.1]
  unfold hei
  rw [Int32.lt_iff_toInt_lt, Int32.lt_iff_toInt_lt, t_sub (by rw [mn_t]; omega), t_sub (by rw [mn_t]; omega), mn_t, mn_t, mx_t, mx_t]
theorem hov_z {a c : Nat} {x y : Int32} (hx : pl x) (hy : pl y) (h1 : 1 ≤ B 100 20 a ∧ B 100 20 a ≤ 40) (h2 : 1 ≤ B 100 20 c ∧ B 100 20 c ≤ 40) : hov B a c x y ↔ oz (B 100 20 a).toInt (B 100 20 c).toInt x.toInt y.toInt := by
  have a1 := pl_i hx
  have a2 := pl_i hy
  have z1 : (1 : Int32).toInt = 1 := rfl
  have z40 : (40 : Int32).toInt = 40 := rfl
  have b1 : 1 ≤ (B 100 20 a).toInt ∧ (B 100 20 a).toInt ≤ 40 := by
    obtain ⟨u, v⟩ := h1
    rw [Int32.le_iff_toInt_le] at u v
    exact ⟨u, v⟩
  have b2 : 1 ≤ (B 100 20 c).toInt ∧ (B 100 20 c).toInt ≤ 40 := by
    obtain ⟨u, v⟩ := h2
    rw [Int32.le_iff_toInt_le] at u v
    exact ⟨u, v⟩
  unfold hov ovl oz
  rw [Int32.sub_add_cancel, Int32.sub_add_cancel, Int32.lt_iff_toInt_lt, Int32.lt_iff_toInt_lt, t_sub (by omega), t_sub (by omega)]
theorem lo_t {p q : Int32} : (loV p q).toInt = min p.toInt q.toInt := by
  unfold loV
  by_cases w : q ≤ p
  · rw [if_pos w]
    rw [Int32.le_iff_toInt_le] at w
    omega
  · rw [if_neg w]
    rw [Int32.le_iff_toInt_le] at w
    omega
theorem hi_t {p q : Int32} : (hiV p q).toInt = max p.toInt q.toInt := by
  unfold hiV
  by_cases w : p ≤ q
  · rw [if_pos w]
    rw [Int32.le_iff_toInt_le] at w
    omega
  · rw [if_neg w]
    rw [Int32.le_iff_toInt_le] at w
    omega
theorem rng_iv {p q : Int32} {x : Nat} (hp : pl p) (hq : pl q) (hx : x ≤ 400) : (nn (loV p q) ≤ x ∧ x ≤ nn (hiV p q)) ↔ IV p q (Int32.ofNat x) := by
  have l1 := n_t (loV_pl hp hq).1
  have l2 := n_t (hiV_pl hp hq).1
  rw [lo_t] at l1
  rw [hi_t] at l2
  unfold IV
  rw [n_i (by omega)]
  omega
end QE
