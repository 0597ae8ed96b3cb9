/-! the class's questions and small calls -/
section LA
variable {l : Launch} {Q : rf_O → rf_S → Prop} {L : Nat} {I : Nat → Nat → Nat → Int32} {J : Nat → Nat → Nat → Int64} {σ : rf_S}
theorem wi_ok {x : Int32} {n : Nat} (hn : n < 2147483647) : (0 ≤ x ∧ x ≤ Int32.ofNat n) ↔ ok x (n + 1) := by
  constructor
  · intro h
    exact ⟨h.1, Nat.lt_succ_of_le ((nn_le h.1 (by omega)).mp h.2)⟩
  · intro h
    exact ⟨h.1, (nn_le h.1 (by omega)).mpr (Nat.le_of_lt_succ h.2)⟩
theorem c_inIx {x : Int32} {n : Nat} (hn : n < 2147483647) (h1 : ok x (n + 1) → Q (.inl (some (.inl 1))) σ) (h0 : ¬ ok x (n + 1) → Q (.inl (some (.inl 0))) σ) : rf_C l 10 [.inl x, .inl 0, .inl (Int32.ofNat n)] σ Q :=
  c_within2 (fun h => h1 ((wi_ok hn).mp h)) (fun h => h0 fun q => h ((wi_ok hn).mpr q))
theorem c_handle {s x : Int32} (hx : x = 0 ∨ x = 1) (h0 : ¬ ok s 3 → Q (.inr 0) (sS L I J)) (hq : ok s 3 → Q (.inl none) (sS L (rf_u3 I 101 0 (nn s) x) J)) : rf_C l 91 [.inr (.inr (some (7, 0))), .inl s, .inl x] (sS L I J) Q := by
  apply rf_C.ofW
  exact rf_goW rf_mo_91 rf_T_91 20 [] (And.intro ⟨by decide, by decide⟩ (c_checkIx (n := 3) (by decide) (fun a1 => And.intro hx (And.intro a1 (hq a1))) h0))
theorem c_cell {h v : Int32} (h0 : ¬ ok h 12 → Q (.inr 0) (sS L I J)) (h1 : ok h 12 → v < -1 → Q (.inr 1) (sS L I J)) (hq : ok h 12 → ¬ v < -1 → Q (.inl none) (sS L (rf_u3 I 2 (nn h) 8 v) J)) : rf_C l 136 [.inr (.inr (some (7, 0))), .inl h, .inl v] (sS L I J) Q := by
  apply rf_C.ofW
  exact rf_goW rf_mo_136 rf_T_136 30 [] (And.intro ⟨by decide, by decide⟩ (c_checkIx (n := 12) (by decide) (fun a1 => And.intro (fun hc => And.intro ⟨by decide, by decide⟩ (ka0 (h1 a1 hc))) (fun hc => And.intro ⟨by decide, by decide⟩ (ka1 (And.intro a1 (hq a1 hc))))) h0))
theorem c_lose {h v : Int32} (h0 : ¬ ok h 12 → Q (.inr 0) (sS L I J)) (h1 : ok h 12 → ¬ (0 ≤ v ∧ v ≤ 100) → Q (.inr 1) (sS L I J)) (hq : ok h 12 → 0 ≤ v ∧ v ≤ 100 → Q (.inl none) (sS L (rf_u3 I 2 (nn h) 7 v) J)) : rf_C l 139 [.inr (.inr (some (7, 0))), .inl h, .inl v] (sS L I J) Q := by
  apply rf_C.ofW
  exact rf_goW rf_mo_139 rf_T_139 30 [] (And.intro ⟨by decide, by decide⟩ (c_checkIx (n := 12) (by decide) (fun a1 => And.intro ⟨by decide, by decide⟩ (c_within2 (fun hc => And.intro ⟨by decide, by decide⟩ (ka1 (And.intro a1 (hq a1 hc)))) (fun hc => And.intro ⟨by decide, by decide⟩ (ka0 (h1 a1 hc))))) h0))
theorem c_stick {h v : Int32} (hv : v = 0 ∨ v = 1) (h0 : ¬ ok h 12 → Q (.inr 0) (sS L I J)) (hq : ok h 12 → Q (.inl none) (sS L (rf_u3 I 2 (nn h) 6 v) J)) : rf_C l 142 [.inr (.inr (some (7, 0))), .inl h, .inl v] (sS L I J) Q := by
  apply rf_C.ofW
  exact rf_goW rf_mo_142 rf_T_142 30 [] (And.intro ⟨by decide, by decide⟩ (c_checkIx (n := 12) (by decide) (fun a1 => And.intro a1 (And.intro hv (hq a1))) h0))
theorem c_version (hq : Q (.inl (some (.inl (I 7 0 11)))) (sS L I J)) : rf_C l 163 [.inr (.inr (some (7, 0)))] (sS L I J) Q := by
  apply rf_C.ofW
  exact rf_goW rf_mo_163 rf_T_163 20 [] hq
/-- what hoist answers, out of the drive's row and its load -/
def hoV (r : Nat → Int32) (d w : Int32) : Int32 := if w = 0 then r 1 else if w = 1 then r 2 else if w = 2 then (if r 3 = 0 then 0 else 1) else if w = 3 then d else if w = 4 then r 0 else if w = 5 then ab (r 5) else -1
theorem c_hoist {h w : Int32} (hd : ∀ h, h < 12 → ¬ I 2 h 0 = -1 → ok (I 2 h 0) 6) (h0 : ¬ ok h 12 → Q (.inl (some (.inl (-1)))) (sS L I J)) (hq : ok h 12 → Q (.inl (some (.inl (hoV (I 2 (nn h)) (lod I (nn h)) w)))) (sS L I J)) : rf_C l 148 [.inr (.inr (some (7, 0))), .inl h, .inl w] (sS L I J) Q := by
  apply rf_C.ofW
  refine rf_goW rf_mo_148 rf_T_148 60 [] (And.intro ⟨by decide, by decide⟩ (c_inIx (n := 11) (by decide) (fun a1 => br_ne1 (And.intro a1 ?_)) (fun a1 => br_ne0 (h0 a1))))
  have hq' := hq a1
  unfold hoV at hq'
  refine And.intro (fun e => ?_) (fun e0 => And.intro (fun e => ?_) (fun e1 => And.intro (fun e => ?_) (fun e2 => And.intro (fun e => ?_) (fun e3 => And.intro (fun e => ?_) (fun e4 => And.intro (fun e => ?_) (fun e5 => ?_))))))
  · rw [if_pos e] at hq'; exact hq'
  · rw [if_neg e0, if_pos e] at hq'; exact hq'
  · rw [if_neg e0, if_neg e1, if_pos e] at hq'
    refine And.intro (fun (f : I 2 (nn h) 3 = 0) => ?_) (fun (f : ¬ I 2 (nn h) 3 = 0) => ?_)
    · rw [if_pos f] at hq'; exact hq'
    · rw [if_neg f] at hq'; exact hq'
  · rw [if_neg e0, if_neg e1, if_neg e2, if_pos e] at hq'
    exact And.intro ⟨by decide, by decide⟩ (c_loadOf (hd _ a1.2) hq')
  · rw [if_neg e0, if_neg e1, if_neg e2, if_neg e3, if_pos e] at hq'; exact hq'
  · rw [if_neg e0, if_neg e1, if_neg e2, if_neg e3, if_neg e4, if_pos e] at hq'
    exact And.intro ⟨by decide, by decide⟩ (c_abs hq')
  · rw [if_neg e0, if_neg e1, if_neg e2, if_neg e3, if_neg e4, if_neg e5] at hq'; exact hq'
/-- what piece answers of a piece that hangs -/
def piV (a v q s n w : Int32) : Int32 := if w = 0 then 1 else if w = 1 then a else if w = 2 then v else if w = 3 then q else if w = 4 then s else n
theorem c_piece {p w : Int32} (h0 : ¬ (ok p 6 ∧ ok w 6) → Q (.inl (some (.inl (-1)))) (sS L I J)) (h1 : ok p 6 → ok w 6 → I 6 (nn p) 1 = 0 → Q (.inl (some (.inl 0))) (sS L I J))
    (hq : ok p 6 → ok w 6 → ¬ I 6 (nn p) 1 = 0 → Q (.inl (some (.inl (piV (I 100 0 (nn p)) (I 100 1 (nn p)) (I 6 (nn p) 4) (hghF (dP I) (dA I) p 12 - lowF (dP I) (dA I) p 12) (lea I (nn p)) w)))) (sS L I J)) : rf_C l 150 [.inr (.inr (some (7, 0))), .inl p, .inl w] (sS L I J) Q := by
  apply rf_C.ofW
  refine rf_goW rf_mo_150 rf_T_150 60 [] (And.intro ⟨by decide, by decide⟩ (c_inIx (n := 5) (by decide) (fun a1 => br_eq1 (And.intro ⟨by decide, by decide⟩ (c_inIx (n := 5) (by decide) (fun a2 => br_ne1 (And.intro a1 (And.intro (fun hh => ?_) (fun hh => h1 a1 a2 hh)))) (fun a2 => br_ne0 (h0 fun q => a2 q.2))))) (fun a1 => br_eq0 (h0 fun q => a1 q.1))))
  have hq' := hq a1 a2 hh
  unfold piV at hq'
  refine And.intro (fun e => ?_) (fun e0 => And.intro (fun e => ?_) (fun e1 => And.intro (fun e => ?_) (fun e2 => And.intro (fun e => ?_) (fun e3 => And.intro (fun e => ?_) (fun e4 => ?_)))))
  · rw [if_pos e] at hq'; exact hq'
  · rw [if_neg e0, if_pos e] at hq'; exact And.intro a1 hq'
  · rw [if_neg e0, if_neg e1, if_pos e] at hq'; exact And.intro a1 hq'
  · rw [if_neg e0, if_neg e1, if_neg e2, if_pos e] at hq'; exact And.intro a1 hq'
  · rw [if_neg e0, if_neg e1, if_neg e2, if_neg e3, if_pos e] at hq'
    exact And.intro ⟨by decide, by decide⟩ (c_highestDrive (And.intro ⟨by decide, by decide⟩ (c_lowestDrive hq')))
  · rw [if_neg e0, if_neg e1, if_neg e2, if_neg e3, if_neg e4] at hq'
    exact And.intro a1 (And.intro ⟨by decide, by decide⟩ (c_learnt' hq'))
def cuV (x s n w : Int32) : Int32 := if w = 0 then x else if w = 1 then s else if w = 2 then n else -1
theorem c_cue {c w : Int32} (h0 : ¬ ok c 8 → Q (.inl (some (.inl (-1)))) (sS L I J)) (hq : ok c 8 → Q (.inl (some (.inl (cuV (I 1 (40 + nn c) 3) (I 1 (40 + nn c) 2) (I 1 (40 + nn c) 1) w)))) (sS L I J)) : rf_C l 152 [.inr (.inr (some (7, 0))), .inl c, .inl w] (sS L I J) Q := by
  apply rf_C.ofW
  refine rf_goW rf_mo_152 rf_T_152 60 [] (And.intro ⟨by decide, by decide⟩ (c_inIx (n := 7) (by decide) (fun a1 => br_ne1 ?_) (fun a1 => br_ne0 (h0 a1))))
  have hq' := hq a1
  unfold cuV at hq'
  refine And.intro (fun e => ?_) (fun e0 => And.intro (fun e => ?_) (fun e1 => And.intro (fun e => ?_) (fun e2 => ?_)))
  · rw [if_pos e] at hq'; exact And.intro a1 hq'
  · rw [if_neg e0, if_pos e] at hq'; exact And.intro a1 hq'
  · rw [if_neg e0, if_neg e1, if_pos e] at hq'; exact And.intro a1 hq'
  · rw [if_neg e0, if_neg e1, if_neg e2] at hq'; exact hq'
def moV (r : Nat → Int32) (w : Int32) : Int32 := if w = 0 then r 0 else if w = 1 then r 1 else if w = 2 then r 2 else if w = 3 then r 3 else if w = 4 then r 4 else -1
theorem mo_ok : ∀ n, n < 5 → ∀ m : Int32, (0 ≤ m ∧ m ≤ Int32.ofNat n - 1) ↔ ok m n := by
  intro n hn m
  cases n with
  | zero =>
    constructor
    · intro h
      have h1 := Int32.le_iff_toInt_le.mp h.1
      have h2 := Int32.le_iff_toInt_le.mp h.2
      exact absurd (Int.le_trans h1 h2) (by decide)
    · intro h
      exact absurd h.2 (Nat.not_lt_zero _)
  | succ n =>
    have e : Int32.ofNat (n + 1) - 1 = Int32.ofNat n := by
      have : n = 0 ∨ n = 1 ∨ n = 2 ∨ n = 3 := by omega
      rcases this with rfl | rfl | rfl | rfl <;> decide
    rw [e]
    exact wi_ok (by omega)
theorem c_moveOf {c m w : Int32} (hn : ∀ c, c < 8 → ok (I 1 (40 + c) 1) 5) (h0 : ¬ (ok c 8 ∧ ok m (nn (I 1 (40 + nn c) 1))) → Q (.inl (some (.inl (-1)))) (sS L I J))
    (hq : ok c 8 → ok m (nn (I 1 (40 + nn c) 1)) → Q (.inl (some (.inl (moV (I 5 (4 * (40 + nn c) + nn m)) w)))) (sS L I J)) : rf_C l 154 [.inr (.inr (some (7, 0))), .inl c, .inl m, .inl w] (sS L I J) Q := by
  apply rf_C.ofW
  refine rf_goW rf_mo_154 rf_T_154 60 [] (And.intro ⟨by decide, by decide⟩ (c_inIx (n := 7) (by decide) (fun a1 => br_eq1 (And.intro a1 ?_)) (fun a1 => br_eq0 (h0 fun q => a1 q.1))))
  have hcn : ok (I 1 (40 + nn c) 1) 5 := hn _ a1.2
  have h5 : nn (I 1 (40 + nn c) 1) < 5 := hcn.2
  have em : (0 ≤ m ∧ m ≤ I 1 (40 + nn c) 1 - 1) ↔ ok m (nn (I 1 (40 + nn c) 1)) := by
    have := mo_ok _ h5 m
    rw [nn_of hcn.1] at this
    exact this
  refine And.intro ⟨by decide, by decide⟩ (c_within2 (fun b => br_ne1 ?_) (fun b => br_ne0 (h0 fun q => b (em.mpr q.2))))
  have a2 := em.mp b
  have hm4 : ok m 4 := ⟨a2.1, by have : nn m < nn (I 1 (40 + nn c) 1) := a2.2
                                 show nn m < 4
                                 omega⟩
  have hq' := hq a1 a2
  unfold moV at hq'
  refine And.intro a1 (And.intro hm4 (And.intro (fun e => ?_) (fun e0 => And.intro (fun e => ?_) (fun e1 => And.intro (fun e => ?_) (fun e2 => And.intro (fun e => ?_) (fun e3 => And.intro (fun e => ?_) (fun e4 => ?_)))))))
  · rw [if_pos e] at hq'; exact hq'
  · rw [if_neg e0, if_pos e] at hq'; exact hq'
  · rw [if_neg e0, if_neg e1, if_pos e] at hq'; exact hq'
  · rw [if_neg e0, if_neg e1, if_neg e2, if_pos e] at hq'; exact hq'
  · rw [if_neg e0, if_neg e1, if_neg e2, if_neg e3, if_pos e] at hq'; exact hq'
  · rw [if_neg e0, if_neg e1, if_neg e2, if_neg e3, if_neg e4] at hq'; exact hq'
def hgs (I : Nat → Nat → Nat → Int32) (p : Int32) : Prop := ok p 6 ∧ ¬ I 6 (nn p) 1 = 0
theorem c_isHanging {p : Int32} (h1 : hgs I p → Q (.inl (some (.inl 1))) (sS L I J)) (h0 : ¬ hgs I p → Q (.inl (some (.inl 0))) (sS L I J)) : rf_C l 156 [.inr (.inr (some (7, 0))), .inl p] (sS L I J) Q := by
  apply rf_C.ofW
  exact rf_goW rf_mo_156 rf_T_156 60 [] (And.intro ⟨by decide, by decide⟩ (c_inIx (n := 5) (by decide) (fun a1 => br_eq1 (And.intro a1 (And.intro (fun e => And.intro (Or.inl rfl) (h0 fun q => q.2 e)) (fun e => And.intro (Or.inr rfl) (h1 ⟨a1, e⟩))))) (fun a1 => br_eq0 (And.intro (Or.inl rfl) (h0 fun q => a1 q.1)))))
def meC (I : Nat → Nat → Nat → Int32) (a b : Int32) : Prop := ¬ a = b ∧ hgs I a ∧ hgs I b ∧ flo I (1 + nn a) (1 + nn b) ∧ hei I (1 + nn a) (1 + nn b) (I 100 0 (nn a)) (I 100 0 (nn a)) (I 100 0 (nn b)) (I 100 0 (nn b))
theorem c_meets {a b : Int32} (h1 : meC I a b → Q (.inl (some (.inl 1))) (sS L I J)) (h0 : ¬ meC I a b → Q (.inl (some (.inl 0))) (sS L I J)) : rf_C l 157 [.inr (.inr (some (7, 0))), .inl a, .inl b] (sS L I J) Q := by
  apply rf_C.ofW
  refine rf_goW rf_mo_157 rf_T_157 90 [] (And.intro (fun e => And.intro (Or.inl rfl) (h0 fun q => q.1 e)) (fun e => And.intro ⟨by decide, by decide⟩ (c_isHanging (fun a1 => br_eq1 (And.intro ⟨by decide, by decide⟩ (c_isHanging (fun a2 => br_ne1 ?_) (fun a2 => br_ne0 (And.intro (Or.inl rfl) (h0 fun q => a2 q.2.2.1)))))) (fun a1 => br_eq0 (And.intro (Or.inl rfl) (h0 fun q => a1 q.2.1))))))
  refine And.intro a1.1 (And.intro a2.1 (And.intro ⟨by decide, by decide⟩ (c_sharesFloor (fun hf => br_eq1 ?_) (fun hf => br_eq0 (And.intro (Or.inl rfl) (h0 fun q => hf q.2.2.2.1))))))
  exact And.intro a1.1 (And.intro a1.1 (And.intro a2.1 (And.intro a2.1 (And.intro ⟨by decide, by decide⟩ (c_sharesHeight (fun hh => br_eq1 (And.intro (Or.inr rfl) (h1 ⟨e, a1, a2, hf, hh⟩))) (fun hh => br_eq0 (And.intro (Or.inl rfl) (h0 fun q => hh q.2.2.2.2))))))))
end LA
