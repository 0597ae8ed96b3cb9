/-! the model: a tick of a drive -/
section MV
variable {l : Launch} {Q : rf_O → rf_S → Prop} {L : Nat} {I : Nat → Nat → Nat → Int32} {J : Nat → Nat → Nat → Int64} {σ : rf_S}
theorem t_add {x y : Int32} (h : -2000000 ≤ x.toInt + y.toInt ∧ x.toInt + y.toInt ≤ 2000000) : (x + y).toInt = x.toInt + y.toInt := by
  rw [Int32.toInt_add]
  exact Int.bmod_eq_of_le (by omega) (by omega)
theorem t_sub {x y : Int32} (h : -2000000 ≤ x.toInt - y.toInt ∧ x.toInt - y.toInt ≤ 2000000) : (x - y).toInt = x.toInt - y.toInt := by
  rw [Int32.toInt_sub]
  exact Int.bmod_eq_of_le (by omega) (by omega)
theorem t_neg {x : Int32} (h : -2000000 ≤ x.toInt ∧ x.toInt ≤ 2000000) : (-x).toInt = -x.toInt := by
  rw [Int32.toInt_neg]
  exact Int.bmod_eq_of_le (by omega) (by omega)
/-- a field of the drives, by row of the model -/
def mdF (b i : Nat) : Nat := if b = 100 then (if i = 11 then 1 else if i = 12 then 4 else if i = 13 then 2 else if i = 14 then 5 else if i = 15 then 7 else 9) else if b = 101 ∧ i = 1 then 3 else 9
theorem mdF_inj {b i b' i' : Nat} (h : ¬ mdF b i = 9) (e : mdF b' i' = mdF b i) : b' = b ∧ i' = i := by
  have key : ∀ b i, (mdF b i = 9) ∨ (b = 100 ∧ i = 11 ∧ mdF b i = 1) ∨ (b = 100 ∧ i = 12 ∧ mdF b i = 4) ∨ (b = 100 ∧ i = 13 ∧ mdF b i = 2) ∨ (b = 100 ∧ i = 14 ∧ mdF b i = 5) ∨ (b = 100 ∧ i = 15 ∧ mdF b i = 7) ∨ (b = 101 ∧ i = 1 ∧ mdF b i = 3) := by
    intro b i
    unfold mdF
    by_cases h1 : b = 100
    · rw [if_pos h1]
      by_cases h2 : i = 11
      · rw [if_pos h2]; omega
      · rw [if_neg h2]
        by_cases h3 : i = 12
        · rw [if_pos h3]; omega
        · rw [if_neg h3]
          by_cases h4 : i = 13
          · rw [if_pos h4]; omega
          · rw [if_neg h4]
            by_cases h5 : i = 14
            · rw [if_pos h5]; omega
            · rw [if_neg h5]
              by_cases h6 : i = 15
              · rw [if_pos h6]; omega
              · rw [if_neg h6]; omega
    · rw [if_neg h1]
      by_cases h2 : b = 101 ∧ i = 1
      · rw [if_pos h2]; omega
      · rw [if_neg h2]; omega
  have k1 := key b i
  have k2 := key b' i'
  omega
/-- one drive's row anew -/
def mdS (I : Nat → Nat → Nat → Int32) (h : Nat) (r : Nat → Int32) : Nat → Nat → Nat → Int32 := fun b i f => if f = h ∧ ¬ mdF b i = 9 then r (mdF b i) else I b i f
theorem mdS_put {h b i : Nat} {r : Nat → Int32} {x : Int32} (hk : ¬ mdF b i = 9) : rf_u3 (mdS I h r) b i h x = mdS I h (uf r (mdF b i) x) := by
  funext b' i' f
  by_cases e : b' = b ∧ i' = i ∧ f = h
  · obtain ⟨rfl, rfl, rfl⟩ := e
    simp [rf_u3, mdS, uf, hk]
  · rw [rf_u3, if_neg e]
    by_cases q : f = h ∧ ¬ mdF b' i' = 9
    · rw [mdS, if_pos q, mdS, if_pos q, uf, if_neg]
      intro w
      have := mdF_inj hk w
      exact e ⟨this.1, this.2, q.1⟩
    · rw [mdS, if_neg q, mdS, if_neg q]
theorem mdS_id {h : Nat} : mdS I h (mD I h) = I := by
  funext b i f
  by_cases q : f = h ∧ ¬ mdF b i = 9
  · rw [mdS, if_pos q]
    obtain ⟨rfl, q⟩ := q
    unfold mdF at q ⊢
    by_cases h1 : b = 100
    · subst h1
      rw [if_pos rfl] at q ⊢
      by_cases h2 : i = 11
      · subst h2; rfl
      · rw [if_neg h2] at q ⊢
        by_cases h3 : i = 12
        · subst h3; rfl
        · rw [if_neg h3] at q ⊢
          by_cases h4 : i = 13
          · subst h4; rfl
          · rw [if_neg h4] at q ⊢
            by_cases h5 : i = 14
            · subst h5; rfl
            · rw [if_neg h5] at q ⊢
              by_cases h6 : i = 15
              · subst h6; rfl
              · rw [if_neg h6] at q
                exact absurd rfl q
    · rw [if_neg h1] at q ⊢
      by_cases h2 : b = 101 ∧ i = 1
      · obtain ⟨rfl, rfl⟩ := h2; rfl
      · rw [if_neg h2] at q
        exact absurd rfl q
  · rw [mdS, if_neg q]
theorem mdS_x {h b i : Nat} {r : Nat → Int32} (hk : ¬ mdF b i = 9) : mdS I h r b i h = r (mdF b i) := if_pos ⟨rfl, hk⟩
theorem mdS_o {h b i f : Nat} {r : Nat → Int32} (hk : mdF b i = 9) : mdS I h r b i f = I b i f := if_neg fun q => q.2 hk
/-- following, in the model's words -/
theorem fo_x {x : Int32} : (if x ≤ 14 then (if -14 ≤ x then x else -14) else 14) = mx (-14) (mn 14 x) := by
  have z14 : (14 : Int32).toInt = 14 := rfl
  have y14 : (-14 : Int32).toInt = -14 := rfl
  unfold mx mn
  by_cases h1 : x ≤ 14
  · rw [if_pos h1]
    by_cases h2 : x < 14
    · rw [if_pos h2]
      by_cases h3 : -14 ≤ x
      · rw [if_pos h3]
        by_cases h4 : -14 < x
        · rw [if_pos h4]
        · rw [if_neg h4]
          exact Int32.le_antisymm (i_nlt.mp h4) h3
      · rw [if_neg h3, if_neg fun q => h3 (Int32.le_of_lt q)]
    · have : x = 14 := Int32.le_antisymm h1 (i_nlt.mp h2)
      subst this
      rfl
  · rw [if_neg h1, if_neg fun q => h1 (Int32.le_of_lt q)]
    rfl
/-- braking, in the model's words -/
def brX (w : Int32) : Int32 := if w ≤ 4 then (if -4 ≤ w then 0 else w + 4) else w - 4
def brY (a x : Int32) : Int32 := if a + x ≤ 400 then (if 0 ≤ a + x then x else -a) else 400 - a
theorem br_x {r : Nat → Int32} (ha : pl (r 1)) (hw : -14 ≤ r 5 ∧ r 5 ≤ 14) : brY (r 1) (brX (r 5)) = brT r - r 1 := by
  obtain ⟨a, ea⟩ : ∃ a, a = r 1 := ⟨_, rfl⟩
  obtain ⟨w, ew⟩ : ∃ w, w = r 5 := ⟨_, rfl⟩
  have a1 := pl_i ha
  have w1 : -14 ≤ w.toInt ∧ w.toInt ≤ 14 := by
    obtain ⟨p, q⟩ := hw
    rw [Int32.le_iff_toInt_le] at p q
    rw [ew]
    exact ⟨p, q⟩
  have z0 : (0 : Int32).toInt = 0 := rfl
  have z4 : (4 : Int32).toInt = 4 := rfl
  have y4 : (-4 : Int32).toInt = -4 := rfl
  have z400 : (400 : Int32).toInt = 400 := rfl
  rw [← ea] at a1
  have hU : (brU r).toInt = if 4 < w.toInt then w.toInt - 4 else if w.toInt < -4 then -w.toInt - 4 else 0 := by
    unfold brU
    rw [← ew]
    have hab : (ab w).toInt = if 0 ≤ w.toInt then w.toInt else -w.toInt := by
      unfold ab
      by_cases q : 0 ≤ w
      · rw [if_pos q]
        rw [Int32.le_iff_toInt_le, z0] at q
        rw [if_pos q]
      · rw [if_neg q, t_neg (by omega)]
        rw [Int32.le_iff_toInt_le, z0] at q
        rw [if_neg q]
    have hs : (ab w - 4).toInt = (ab w).toInt - 4 := by
      rw [t_sub (by rw [hab]; split <;> omega)]
      rfl
    unfold mx
    by_cases q : 0 < ab w - 4
    · rw [if_pos q, hs, hab]
      rw [Int32.lt_iff_toInt_lt, z0, hs, hab] at q
      split at q <;> split <;> split <;> (try split) <;> omega
    · rw [if_neg q, z0]
      rw [Int32.lt_iff_toInt_lt, z0, hs, hab] at q
      split at q <;> split <;> (try split) <;> omega
  have hX : (brX w).toInt = if 4 < w.toInt then w.toInt - 4 else if w.toInt < -4 then w.toInt + 4 else 0 := by
    unfold brX
    by_cases q : w ≤ 4
    · rw [if_pos q]
      rw [Int32.le_iff_toInt_le, z4] at q
      rw [if_neg (show ¬ 4 < w.toInt by omega)]
      by_cases q2 : -4 ≤ w
      · rw [if_pos q2]
        rw [Int32.le_iff_toInt_le, y4] at q2
        rw [if_neg (show ¬ w.toInt < -4 by omega)]
        rfl
      · rw [if_neg q2]
        rw [Int32.le_iff_toInt_le, y4] at q2
        rw [if_pos (show w.toInt < -4 by omega), t_add (by omega), z4]
    · rw [if_neg q]
      rw [Int32.le_iff_toInt_le, z4] at q
      rw [if_pos (show 4 < w.toInt by omega), t_sub (by omega), z4]
  have bX : -10 ≤ (brX w).toInt ∧ (brX w).toInt ≤ 10 := by
    rw [hX]
    split
    · omega
    · split <;> omega
  have hT : (if 0 ≤ r 5 then r 1 + brU r else r 1 - brU r).toInt = a.toInt + (brX w).toInt := by
    rw [← ew, ← ea]
    by_cases q : 0 ≤ w
    · rw [if_pos q]
      rw [Int32.le_iff_toInt_le, z0] at q
      have : (brU r).toInt = (brX w).toInt := by
        rw [hU, hX]
        split
        · rfl
        · split <;> omega
      rw [t_add (by omega), this]
    · rw [if_neg q]
      rw [Int32.le_iff_toInt_le, z0] at q
      have : (brU r).toInt = -(brX w).toInt := by
        rw [hU, hX]
        split
        · omega
        · split <;> omega
      rw [t_sub (by omega), this]
      omega
  obtain ⟨t, et⟩ : ∃ t, t = (if 0 ≤ r 5 then r 1 + brU r else r 1 - brU r) := ⟨_, rfl⟩
  rw [← et] at hT
  unfold brT
  rw [← et, ← ea, ← ew]
  obtain ⟨x, ex⟩ : ∃ x, x = brX w := ⟨_, rfl⟩
  rw [← ex] at hT bX ⊢
  have hax : (a + x).toInt = a.toInt + x.toInt := t_add (by omega)
  have htx : t = a + x := by rw [← Int32.toInt_inj, hT, hax]
  rw [htx, brY, ← Int32.toInt_inj]
  unfold mx mn
  by_cases q : a + x ≤ 400
  · rw [if_pos q]
    have q' := q
    rw [Int32.le_iff_toInt_le, z400, hax] at q
    by_cases q2 : 0 ≤ a + x
    · rw [if_pos q2]
      by_cases q3 : a + x < 400
      · rw [if_pos q3]
        by_cases q4 : 0 < a + x
        · rw [if_pos q4, t_sub (by omega), hax]
          omega
        · rw [if_neg q4, t_sub (by omega), z0]
          rw [Int32.le_iff_toInt_le, z0, hax] at q2
          rw [Int32.lt_iff_toInt_lt, z0, hax] at q4
          omega
      · rw [if_neg q3, if_pos (by decide), t_sub (by omega), z400]
        rw [Int32.lt_iff_toInt_lt, z400, hax] at q3
        omega
    · rw [if_neg q2, t_neg (by omega)]
      rw [Int32.le_iff_toInt_le, z0, hax] at q2
      have q3 : a + x < 400 := by rw [Int32.lt_iff_toInt_lt, z400, hax]; omega
      have q4 : ¬ 0 < a + x := by rw [Int32.lt_iff_toInt_lt, z0, hax]; omega
      rw [if_pos q3, if_neg q4, t_sub (by omega), z0]
      omega
  · rw [if_neg q]
    rw [Int32.le_iff_toInt_le, z400, hax] at q
    have q3 : ¬ a + x < 400 := by rw [Int32.lt_iff_toInt_lt, z400, hax]; omega
    rw [if_neg q3, if_pos (by decide)]
theorem fo_r {r : Nat → Int32} : (if r 4 - r 1 ≤ 14 then (if -14 ≤ r 4 - r 1 then r 4 - r 1 else -14) else 14) = flT r - r 1 := by
  rw [fo_x, flT, Int32.add_comm, Int32.add_sub_cancel]
end MV
