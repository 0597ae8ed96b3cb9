/-! loops of the class that only look -/
def nn (x : Int32) : Nat := x.toNatClampNeg
def ok (x : Int32) (n : Nat) : Prop := 0 ≤ x ∧ x.toNatClampNeg < n
theorem lp_dn {n : Nat} {P : Nat → Prop} (he : P n) (hs : ∀ i, i < n → P (i + 1) → P i) (i : Nat) (hi : i ≤ n) : P i := by
  have : ∀ k, k ≤ n → P (n - k) := by
    intro k
    induction k with
    | zero => intro _; exact he
    | succ k ih =>
      intro hk
      have h := ih (by omega)
      have e : n - k = n - (k + 1) + 1 := by omega
      rw [e] at h
      exact hs _ (by omega) h
  have h := this (n - i) (by omega)
  rwa [show n - (n - i) = i by omega] at h
theorem nn_le {x : Int32} {i : Nat} (h : 0 ≤ x) (hi : i < 2147483648) : x ≤ Int32.ofNat i ↔ nn x ≤ i := by
  rw [Int32.le_iff_toInt_le, Int32.toInt_ofNat_of_lt (by omega)]
  rw [Int32.le_iff_toInt_le] at h
  have h0 : 0 ≤ x.toInt := h
  show _ ↔ x.toInt.toNat ≤ i
  omega
section LL
variable {l : Launch} {Q : rf_O → rf_S → Prop} {L : Nat} {I : Nat → Nat → Nat → Int32} {J : Nat → Nat → Nat → Int64}
theorem c_hoistsAreFree {x : Int32} (h1 : (∀ i, i < 12 → hb x (Int32.ofNat i) → I 2 i 0 = -1) → Q (.inl (some (.inl 1))) (sS L I J)) (h0 : ¬ (∀ i, i < 12 → hb x (Int32.ofNat i) → I 2 i 0 = -1) → Q (.inl (some (.inl 0))) (sS L I J)) : rf_C l 15 [.inr (.inr (some (7, 0))), .inl x] (sS L I J) Q := by
  apply rf_C.ofW
  refine rf_goW rf_mo_15 rf_T_15 3 [2] ?_
  have key : ∀ i, i ≤ 12 → (∀ j, j < i → hb x (Int32.ofNat j) → I 2 j 0 = -1) → rf_W l 15 2 [some (.inr (.inr (some (7, 0)))), some (.inl x), some (.inl (Int32.ofNat i))] [] (sS L I J) 0 0 Q := by
    refine lp_dn ?_ ?_
    · intro hj
      exact rf_goW rf_mo_15 rf_T_15 60 [2] (And.intro (fun _ => And.intro (Or.inr rfl) (h1 hj)) (fun hc => absurd (Int32.le_refl _) hc))
    · intro i hi ih hj
      refine rf_goW rf_mo_15 rf_T_15 60 [2] (And.intro (fun hc => absurd ((nt_le (i := 12) (by omega) (by omega)).mp hc) (by omega)) (fun _ => And.intro ⟨by decide, by decide⟩ (c_hasBit (fun hb => br_eq1 ?_) (fun hb => br_eq0 ?_))))
      · refine And.intro (nt_ix (n := 12) hi (by decide)) ?_
        rw [nt_cl (by omega)]
        refine And.intro (fun hc => ?_) (fun hc => And.intro (Or.inl rfl) (h0 fun q => hc (q i hi hb)))
        refine cast (congrArg (fun q => rf_W l 15 2 [some (.inr (.inr (some (7, 0)))), some (.inl x), some (.inl q)] [] (sS L I J) 0 0 Q) (nt_succ i).symm) (ih fun j hji hbj => ?_)
        by_cases e : j = i
        · rw [e]; exact hc
        · exact hj j (by omega) hbj
      · refine cast (congrArg (fun q => rf_W l 15 2 [some (.inr (.inr (some (7, 0)))), some (.inl x), some (.inl q)] [] (sS L I J) 0 0 Q) (nt_succ i).symm) (ih fun j hji hbj => ?_)
        by_cases e : j = i
        · exact absurd (e ▸ hbj) hb
        · exact hj j (by omega) hbj
  exact key 0 (by omega) (fun _ h => absurd h (by omega))
/-- a cue's plan has a move of the piece -/
def hasMv (I : Nat → Nat → Nat → Int32) (c : Nat) (p : Int32) : Prop := ∃ m, m < nn (I 1 c 1) ∧ I 5 (4 * c + m) 0 = p
theorem c_hasMoveOf {c : Nat} {p : Int32} (hn : ok (I 1 c 1) 5) (h1 : hasMv I c p → Q (.inl (some (.inl 1))) (sS L I J)) (h0 : ¬ hasMv I c p → Q (.inl (some (.inl 0))) (sS L I J)) : rf_C l 36 [.inr (.inr (some (1, c))), .inl p] (sS L I J) Q := by
  apply rf_C.ofW
  refine rf_goW rf_mo_36 rf_T_36 3 [2] ?_
  have hb : nn (I 1 c 1) < 5 := hn.2
  have key : ∀ i, i ≤ nn (I 1 c 1) → (∀ j, j < i → ¬ I 5 (4 * c + j) 0 = p) → rf_W l 36 2 [some (.inr (.inr (some (1, c)))), some (.inl p), some (.inl (Int32.ofNat i))] [] (sS L I J) 0 0 Q := by
    refine lp_dn ?_ ?_
    · intro hj
      exact rf_goW rf_mo_36 rf_T_36 60 [2] (And.intro (fun _ => And.intro (Or.inl rfl) (h0 fun ⟨m, q1, q2⟩ => hj m q1 q2)) (fun hc => absurd ((nn_le hn.1 (by omega)).mpr (Nat.le_refl _)) hc))
    · intro i hi ih hj
      rw [← nt_succ i] at ih
      refine rf_goW rf_mo_36 rf_T_36 60 [2] (And.intro (fun hc => absurd ((nn_le hn.1 (by omega)).mp hc) (by omega)) (fun _ => And.intro (nt_ix (n := 4) (by omega) (by decide)) ?_))
      rw [nt_cl (by omega)]
      refine And.intro (fun hc => ih fun j hji e => ?_) (fun hc => And.intro (Or.inr rfl) (h1 ⟨i, hi, hc⟩))
      by_cases e' : j = i
      · exact hc (e' ▸ e)
      · exact hj j (by omega) e
  exact key 0 (by omega) (fun _ h => absurd h (by omega))
/-- the cue is busy and has a move of the piece -/
def bz (I : Nat → Nat → Nat → Int32) (p : Int32) (c : Nat) : Prop := busy I (40 + c) ∧ hasMv I (40 + c) p
theorem c_busyCueOf {p : Int32} (hn : ∀ c, c < 8 → ok (I 1 (40 + c) 1) 5) (h1 : ∀ c, c < 8 → bz I p c → (∀ j, j < c → ¬ bz I p j) → Q (.inl (some (.inl (Int32.ofNat c)))) (sS L I J)) (h0 : (∀ c, c < 8 → ¬ bz I p c) → Q (.inl (some (.inl (-1)))) (sS L I J)) : rf_C l 37 [.inr (.inr (some (7, 0))), .inl p] (sS L I J) Q := by
  apply rf_C.ofW
  refine rf_goW rf_mo_37 rf_T_37 3 [2] ?_
  have key : ∀ i, i ≤ 8 → (∀ j, j < i → ¬ bz I p j) → rf_W l 37 2 [some (.inr (.inr (some (7, 0)))), some (.inl p), some (.inl (Int32.ofNat i))] [] (sS L I J) 0 0 Q := by
    refine lp_dn ?_ ?_
    · intro hj
      exact rf_goW rf_mo_37 rf_T_37 60 [2] (And.intro (fun _ => h0 hj) (fun hc => absurd (Int32.le_refl _) hc))
    · intro i hi ih hj
      rw [← nt_succ i] at ih
      have nx : ¬ bz I p i → ∀ j, j < i + 1 → ¬ bz I p j := fun hz j hji => by
        by_cases e' : j = i
        · rw [e']; exact hz
        · exact hj j (by omega)
      refine rf_goW rf_mo_37 rf_T_37 60 [2] (And.intro (fun hc => absurd ((nt_le (i := 8) (by omega) (by omega)).mp hc) (by omega)) (fun _ => And.intro (nt_ix (n := 8) hi (by decide)) ?_))
      rw [nt_cl (by omega)]
      refine And.intro ⟨by decide, by decide⟩ (c_isBusy (fun hb => br_eq1 ?_) (fun hb => br_eq0 (ih (nx fun q => hb q.1))))
      refine And.intro (nt_ix (n := 8) hi (by decide)) ?_
      rw [nt_cl (by omega)]
      exact And.intro ⟨by decide, by decide⟩ (c_hasMoveOf (hn i hi) (fun hm => br_eq1 (h1 i hi ⟨hb, hm⟩ hj)) (fun hm => br_eq0 (ih (nx fun q => hm q.2))))
  exact key 0 (by omega) (fun _ h => absurd h (by omega))
/-- locals known no more -/
def lsub : List (Option rf_V) → List (Option rf_V) → Prop
  | [], [] => True
  | none :: t, _ :: t' => lsub t t'
  | some x :: t, some y :: t' => x = y ∧ lsub t t'
  | _, _ => False
theorem lsub_ok : ∀ {lv lv' : List (Option rf_V)}, lsub lv' lv → lv'.length = lv.length ∧ ∀ (j : Nat) (x : rf_V), lv'[j]? = some (some x) → lv[j]? = some (some x)
  | [], [], _ => ⟨rfl, fun _ _ h => h⟩
  | _ :: _, none :: t, h => ⟨congrArg (· + 1) (lsub_ok (lv' := t) h).1, fun j x hj => by
      cases j with
      | zero => cases hj
      | succ j => exact (lsub_ok (lv' := t) h).2 j x hj⟩
  | some _ :: _, some _ :: t, h => ⟨congrArg (· + 1) (lsub_ok (lv' := t) h.2).1, fun j x hj => by
      cases j with
      | zero => rw [← hj]; exact congrArg (fun q => some (some q)) h.1.symm
      | succ j => exact (lsub_ok (lv' := t) h.2).2 j x hj⟩
theorem fgt {k pc : Nat} {lv lv' : List (Option rf_V)} {st : List rf_V} {σ : rf_S} {ce sl : Nat} (h : rf_W l k pc lv' st σ ce sl Q) (hs : lsub lv' lv) : rf_W l k pc lv st σ ce sl Q := h.forget (lsub_ok hs).1 (lsub_ok hs).2
theorem c_anyCueIsBusy (h1 : (∃ c, c < 8 ∧ busy I (40 + c)) → Q (.inl (some (.inl 1))) (sS L I J)) (h0 : ¬ (∃ c, c < 8 ∧ busy I (40 + c)) → Q (.inl (some (.inl 0))) (sS L I J)) : rf_C l 44 [.inr (.inr (some (7, 0)))] (sS L I J) Q := by
  apply rf_C.ofW
  refine rf_goW rf_mo_44 rf_T_44 12 [10] ?_
  have key : ∀ i, i ≤ 8 → (∀ j, j < i → ¬ busy I (40 + j)) → rf_W l 44 10 [some (.inr (.inr (some (7, 0)))), some (.inr (.inr (some (105, 0)))), some (.inl (Int32.ofNat 8)), some (.inl (Int32.ofNat i)), none] [] (sS L I J) 0 0 Q := by
    refine lp_dn ?_ ?_
    · intro hj
      exact rf_goW rf_mo_44 rf_T_44 60 [10] (And.intro (fun _ => And.intro (Or.inl rfl) (h0 fun ⟨c, q1, q2⟩ => hj c q1 q2)) (fun hc => absurd (Int32.le_refl _) hc))
    · intro i hi ih hj
      rw [← nt_succ i] at ih
      refine rf_goW rf_mo_44 rf_T_44 60 [10] (And.intro (fun hc => absurd ((nt_le (i := 8) (by omega) (by omega)).mp hc) (by omega)) (fun _ => And.intro (nt_ix (n := 8) hi (by decide)) ?_))
      rw [nt_cl (by omega)]
      refine And.intro ⟨by decide, by decide⟩ (c_isBusy (fun hb => br_eq1 (And.intro (Or.inr rfl) (h1 ⟨i, hi, hb⟩))) (fun hb => br_eq0 (fgt (ih fun j hji => ?_) (by repeat (first | exact True.intro | refine And.intro rfl ?_)))))
      by_cases e' : j = i
      · rw [e']; exact hb
      · exact hj j (by omega)
  exact key 0 (by omega) (fun _ h => absurd h (by omega))
/-- the trial box would meet no other piece that hangs -/
def tfit (I : Nat → Nat → Nat → Int32) (p a : Int32) (i : Nat) : Prop := ¬ Int32.ofNat i = p → ¬ I 6 i 1 = 0 → flo I 0 (1 + i) → ¬ hei I 0 (1 + i) a a (I 100 0 i) (I 100 0 i)
theorem c_trialFits {p a : Int32} (h1 : (∀ i, i < 6 → tfit I p a i) → Q (.inl (some (.inl 1))) (sS L I J)) (h0 : ¬ (∀ i, i < 6 → tfit I p a i) → Q (.inl (some (.inl 0))) (sS L I J)) : rf_C l 22 [.inr (.inr (some (7, 0))), .inl p, .inl a] (sS L I J) Q := by
  apply rf_C.ofW
  refine rf_goW rf_mo_22 rf_T_22 3 [2] ?_
  have key : ∀ i, i ≤ 6 → (∀ j, j < i → tfit I p a j) → rf_W l 22 2 [some (.inr (.inr (some (7, 0)))), some (.inl p), some (.inl a), some (.inl (Int32.ofNat i))] [] (sS L I J) 0 0 Q := by
    refine lp_dn ?_ ?_
    · intro hj
      exact rf_goW rf_mo_22 rf_T_22 60 [2] (And.intro (fun _ => And.intro (Or.inr rfl) (h1 hj)) (fun hc => absurd (Int32.le_refl _) hc))
    · intro i hi ih hj
      rw [← nt_succ i] at ih
      have nx : tfit I p a i → ∀ j, j < i + 1 → tfit I p a j := fun hz j hji => by
        by_cases e' : j = i
        · rw [e']; exact hz
        · exact hj j (by omega)
      refine rf_goW rf_mo_22 rf_T_22 90 [2] (And.intro (fun hc => absurd ((nt_le (i := 6) (by omega) (by omega)).mp hc) (by omega)) (fun _ => And.intro (fun he => ih (nx fun q => absurd he q)) (fun he => And.intro (nt_ix (n := 6) hi (by decide)) ?_)))
      rw [nt_cl (by omega)]
      refine And.intro (fun hh => ih (nx fun _ q => absurd hh q)) (fun hh => ?_)
      refine And.intro (nt_ix (n := 6) hi (by decide)) ?_
      rw [nt_cl (by omega)]
      refine And.intro ⟨by decide, by decide⟩ (c_sharesFloor (fun hf => br_eq1 ?_) (fun hf => br_eq0 (ih (nx fun _ _ q => absurd q hf))))
      refine And.intro (nt_ix (n := 6) hi (by decide)) ?_
      refine And.intro (nt_ix (n := 6) hi (by decide)) ?_
      refine And.intro (nt_ix (n := 6) hi (by decide)) ?_
      rw [nt_cl (by omega)]
      exact And.intro ⟨by decide, by decide⟩ (c_sharesHeight (fun hg => br_eq1 (And.intro (Or.inl rfl) (h0 fun q => q i hi he hh hf hg))) (fun hg => br_eq0 (ih (nx fun _ _ _ => hg))))
  exact key 0 (by omega) (fun _ h => absurd h (by omega))
end LL
