/-! speeds: a piece never goes further than its goal -/
theorem n_i {k : Nat} (h : k < 2147483648) : (Int32.ofNat k).toInt = k := Int32.toInt_ofNat_of_lt h
theorem n_t {x : Int32} (h : 0 ≤ x) : x.toInt = nn x := by
  have := nn_of h
  have h2 : x.toInt = (Int32.ofNat (nn x)).toInt := by rw [this]
  rw [h2]
  refine n_i ?_
  have := Int32.toInt_lt x
  rw [nn, Int32.toNatClampNeg]
  omega
theorem hs_le : ∀ (N : Nat) (x : Int32), N ≤ 13 → 0 ≤ x.toInt → ((hsN N x * (hsN N x + 1) / 2 : Nat) : Int) ≤ x.toInt
  | 0, x, _, h => by
    rw [hsN]
    simpa using h
  | N + 1, x, hN, h => by
    rw [hsN]
    have hT : (N + 1) * (N + 2) ≤ 13 * 14 := Nat.mul_le_mul (by omega) (by omega)
    by_cases q : x < Int32.ofNat ((N + 1) * (N + 2) / 2)
    · rw [if_pos q]
      exact hs_le N x (by omega) h
    · rw [if_neg q]
      rw [Int32.lt_iff_toInt_lt, n_i (by omega)] at q
      have : N + 1 + 1 = N + 2 := rfl
      rw [this]
      omega
theorem tri_ge (k : Nat) : k ≤ k * (k + 1) / 2 := by
  cases k with
  | zero => exact Nat.zero_le _
  | succ k =>
    have : (k + 1) * 2 ≤ (k + 1) * (k + 1 + 1) := Nat.mul_le_mul_left _ (by omega)
    omega
theorem adv_k {a g v t h : Int32} (ha : pl a) (hg : pl g) (hv : ok v 13) (ht : ok t 13) (hh : h = 0 → ((nn v * (nn v - 1) / 2 : Nat) : Int) ≤ (ab (g - a)).toInt) :
    ∃ k : Nat, adU v t (ab (g - a)) h = Int32.ofNat k ∧ k < 13 ∧ ((k * (k + 1) / 2 : Nat) : Int) ≤ (ab (g - a)).toInt ∧ (k : Int) ≤ (ab (g - a)).toInt := by
  have hv2 : nn v < 13 := hv.2
  have ht2 : nn t < 13 := ht.2
  have h0 := (ab_i ha hg).1
  have fin : ∀ k : Nat, k < 13 → ((k * (k + 1) / 2 : Nat) : Int) ≤ (ab (g - a)).toInt → adU v t (ab (g - a)) h = Int32.ofNat k → ∃ k : Nat, adU v t (ab (g - a)) h = Int32.ofNat k ∧ k < 13 ∧ ((k * (k + 1) / 2 : Nat) : Int) ≤ (ab (g - a)).toInt ∧ (k : Int) ≤ (ab (g - a)).toInt := by
    intro k h1 h2 h3
    have := tri_ge k
    exact ⟨k, h3, h1, h2, by omega⟩
  by_cases e : h = 0
  · refine fin (nn v - 1) (by omega) ?_ ?_
    · have := hh e
      by_cases z : nn v = 0
      · rw [z]; simpa using h0
      · have e2 : nn v - 1 + 1 = nn v := by omega
        rw [e2, Nat.mul_comm]
        exact this
    · rw [adU, if_pos e]
      have : nn v = 0 ∨ nn v = 1 ∨ nn v = 2 ∨ nn v = 3 ∨ nn v = 4 ∨ nn v = 5 ∨ nn v = 6 ∨ nn v = 7 ∨ nn v = 8 ∨ nn v = 9 ∨ nn v = 10 ∨ nn v = 11 ∨ nn v = 12 := by omega
      rw [← nn_of hv.1]
      rcases this with q | q | q | q | q | q | q | q | q | q | q | q | q <;> rw [q] <;> decide
  · refine fin (hsN (min (nn v + 1) (nn t)) (ab (g - a))) ?_ (hs_le _ _ (by omega) h0) (by rw [adU, if_neg e])
    have := hsN_le (min (nn v + 1) (nn t)) (ab (g - a))
    omega
theorem adP_k {a g : Int32} {k : Nat} (ha : pl a) (hg : pl g) (hk : (k : Int) ≤ (ab (g - a)).toInt) :
    pl (adP a g (Int32.ofNat k)) ∧ (ab (g - adP a g (Int32.ofNat k))).toInt = (ab (g - a)).toInt - k ∧ ((a.toInt ≤ (adP a g (Int32.ofNat k)).toInt ∧ (adP a g (Int32.ofNat k)).toInt ≤ g.toInt) ∨ (g.toInt ≤ (adP a g (Int32.ofNat k)).toInt ∧ (adP a g (Int32.ofNat k)).toInt ≤ a.toInt)) ∧ (adP a g (Int32.ofNat k)).toInt = (if g.toInt < a.toInt then a.toInt - k else a.toInt + k) := by
  have a1 := pl_i ha
  have g1 := pl_i hg
  have e := (ab_i ha hg).2
  have k1 : (Int32.ofNat k).toInt = k := n_i (by rw [e] at hk; split at hk <;> omega)
  have val : (adP a g (Int32.ofNat k)).toInt = (if g.toInt < a.toInt then a.toInt - k else a.toInt + k) := by
    unfold adP
    by_cases q : g < a
    · rw [if_pos q]
      rw [Int32.lt_iff_toInt_lt] at q
      rw [e, if_pos (by omega)] at hk
      rw [if_pos q, t_add (by rw [t_neg (by omega), k1]; omega), t_neg (by omega), k1]
      omega
    · rw [if_neg q]
      rw [Int32.lt_iff_toInt_lt] at q
      rw [if_neg q]
      have : (k : Int) ≤ g.toInt - a.toInt := by
        rw [e] at hk
        split at hk <;> omega
      rw [t_add (by omega), k1]
  have p : pl (adP a g (Int32.ofNat k)) := by
    have z0 : (0 : Int32).toInt = 0 := rfl
    have z4 : (400 : Int32).toInt = 400 := rfl
    refine ⟨?_, ?_⟩
    · rw [Int32.le_iff_toInt_le, z0, val]
      rw [e] at hk
      split at hk <;> split <;> omega
    · rw [Int32.le_iff_toInt_le, z4, val]
      rw [e] at hk
      split at hk <;> split <;> omega
  refine ⟨p, ?_, ?_, val⟩
  · rw [(ab_i p hg).2, val, e]
    rw [e] at hk
    split at hk <;> split <;> split <;> (try split) <;> omega
  · rw [val]
    rw [e] at hk
    split at hk <;> split <;> omega
/-- at the goal, held: it stands -/
theorem hs_0 : ∀ N : Nat, N ≤ 13 → hsN N 0 = 0
  | 0, _ => rfl
  | N + 1, h => by
    have hT : (N + 1) * (N + 2) ≤ 13 * 14 := Nat.mul_le_mul (by omega) (by omega)
    have hT2 : 1 * 2 ≤ (N + 1) * (N + 2) := Nat.mul_le_mul (by omega) (by omega)
    rw [hsN, if_pos, hs_0 N (by omega)]
    rw [Int32.lt_iff_toInt_lt, n_i (by omega)]
    have z0 : (0 : Int32).toInt = 0 := rfl
    omega
theorem adU_0 {v t h : Int32} (hv : ok v 13) (ht : ok t 13) (hh : h = 0 → nn v ≤ 1) : adU v t 0 h = 0 := by
  have hv2 : nn v < 13 := hv.2
  unfold adU
  by_cases e : h = 0
  · rw [if_pos e, ← nn_of hv.1]
    have := hh e
    have : nn v = 0 ∨ nn v = 1 := by omega
    rcases this with q | q <;> rw [q] <;> decide
  · rw [if_neg e, hs_0 _ (by omega)]
    rfl
