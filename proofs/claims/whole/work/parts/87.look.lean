/-! more that only looks: moves, cues, drives of a piece -/
def rchd (g b s w : Int32) : Prop := if b ≤ g then w ≤ s else s ≤ w
theorem ms_ix {L : Nat} {I : Nat → Nat → Nat → Int32} {J : Nat → Nat → Nat → Int64} {i j : Nat} {x : Int32} (hi : i < 2) (hj : j < 3) (h : ok x 6) : 0 ≤ x ∧ x.toNatClampNeg < (sS L I J).2.1 100 (3 * i + j) := by
  refine ⟨h.1, ?_⟩
  have e : (sS L I J).2.1 100 (3 * i + j) = 6 := by
    rcases i with _ | _ | i
    · rcases j with _ | _ | _ | j
      · rfl
      · rfl
      · rfl
      · omega
    · rcases j with _ | _ | _ | j
      · rfl
      · rfl
      · rfl
      · omega
    · omega
  rw [e]
  exact h.2
section LK
variable {l : Launch} {Q : rf_O → rf_S → Prop} {L : Nat} {I : Nat → Nat → Nat → Int32} {J : Nat → Nat → Nat → Int64}
theorem c_reached {i m : Nat} {s w : Int32} (hi : i < 2) (hp : ok (I 5 m 0) 6) (h1 : rchd (I 5 m 1) (I 100 (3 * i + 2) (nn (I 5 m 0))) s w → Q (.inl (some (.inl 1))) (sS L I J)) (h0 : ¬ rchd (I 5 m 1) (I 100 (3 * i + 2) (nn (I 5 m 0))) s w → Q (.inl (some (.inl 0))) (sS L I J)) : rf_C l 74 [.inr (.inr (some (4, i))), .inr (.inr (some (5, m))), .inl s, .inl w] (sS L I J) Q := by
  apply rf_C.ofW
  refine rf_goW rf_mo_74 rf_T_74 60 [] (And.intro (ms_ix hi (by decide) hp) (And.intro (fun hc => ?_) (fun hc => ?_)))
  · have hc' : ¬ I 100 (3 * i + 2) (nn (I 5 m 0)) ≤ I 5 m 1 := fun q => i_nlt.mpr q hc
    rw [rchd, if_neg hc'] at h1 h0
    exact And.intro (fun hd => And.intro (Or.inl rfl) (h0 (i_nle.mpr hd))) (fun hd => And.intro (Or.inr rfl) (h1 (i_nlt.mp hd)))
  · have hc' : I 100 (3 * i + 2) (nn (I 5 m 0)) ≤ I 5 m 1 := i_nlt.mp hc
    rw [rchd, if_pos hc'] at h1 h0
    exact And.intro (fun hd => And.intro (Or.inl rfl) (h0 (i_nle.mpr hd))) (fun hd => And.intro (Or.inr rfl) (h1 (i_nlt.mp hd)))
/-- the move m of the cue c waits: masters i -/
def wts (I : Nat → Nat → Nat → Int32) (i c m : Nat) : Prop := ¬ I 5 m 3 = -1 ∧ ¬ rchd (I 5 (4 * c + nn (I 5 m 3)) 1) (I 100 (3 * i + 2) (nn (I 5 (4 * c + nn (I 5 m 3)) 0))) (I 100 (3 * i) (nn (I 5 (4 * c + nn (I 5 m 3)) 0))) (I 5 m 4)
theorem c_waits {i c m : Nat} (hi : i < 2) (ha : ¬ I 5 m 3 = -1 → ok (I 5 m 3) 4 ∧ ok (I 5 (4 * c + nn (I 5 m 3)) 0) 6) (h1 : wts I i c m → Q (.inl (some (.inl 1))) (sS L I J)) (h0 : ¬ wts I i c m → Q (.inl (some (.inl 0))) (sS L I J)) : rf_C l 103 [.inr (.inr (some (4, i))), .inr (.inr (some (1, c))), .inr (.inr (some (5, m)))] (sS L I J) Q := by
  apply rf_C.ofW
  refine rf_goW rf_mo_103 rf_T_103 60 [] (And.intro (fun hc => ?_) (fun hc => And.intro (Or.inl rfl) (h0 fun q => q.1 hc)))
  obtain ⟨ha1, ha2⟩ := ha hc
  refine And.intro ha1 (And.intro (ms_ix hi (by decide) ha2) (And.intro ⟨by decide, by decide⟩ (c_reached hi ha2 (fun hr => br_ne1 ?_) (fun hr => br_ne0 ?_))))
  · exact And.intro (Or.inl rfl) (h0 fun q => q.2 hr)
  · exact And.intro (Or.inr rfl) (h1 ⟨hc, hr⟩)
def hangs1 (I : Nat → Nat → Nat → Int32) (c j : Nat) : Prop := ¬ I 6 (nn (I 5 (4 * c + j) 0)) 1 = 0
theorem c_piecesHang {c : Nat} (hn : ok (I 1 c 1) 5) (hp : ∀ j, j < nn (I 1 c 1) → ok (I 5 (4 * c + j) 0) 6) (h1 : (∀ j, j < nn (I 1 c 1) → hangs1 I c j) → Q (.inl (some (.inl 1))) (sS L I J)) (h0 : ¬ (∀ j, j < nn (I 1 c 1) → hangs1 I c j) → Q (.inl (some (.inl 0))) (sS L I J)) : rf_C l 159 [.inr (.inr (some (7, 0))), .inr (.inr (some (1, c)))] (sS L I J) Q := by
  apply rf_C.ofW
  refine rf_goW rf_mo_159 rf_T_159 3 [2] ?_
  have hb : nn (I 1 c 1) < 5 := hn.2
  have key : ∀ i, i ≤ nn (I 1 c 1) → (∀ j, j < i → hangs1 I c j) → rf_W l 159 2 [some (.inr (.inr (some (7, 0)))), some (.inr (.inr (some (1, c)))), some (.inl (Int32.ofNat i))] [] (sS L I J) 0 0 Q := by
    refine lp_dn ?_ ?_
    · intro hj
      exact rf_goW rf_mo_159 rf_T_159 60 [2] (And.intro (fun _ => And.intro (Or.inr rfl) (h1 hj)) (fun hc => absurd ((nn_le hn.1 (by omega)).mpr (Nat.le_refl _)) hc))
    · intro i hi ih hj
      rw [← nt_succ i] at ih
      refine rf_goW rf_mo_159 rf_T_159 60 [2] (And.intro (fun hc => absurd ((nn_le hn.1 (by omega)).mp hc) (by omega)) (fun _ => And.intro (nt_ix (n := 4) (by omega) (by decide)) ?_))
      rw [nt_cl (by omega)]
      refine And.intro (hp i hi) (And.intro (fun hc => ih fun j hji => ?_) (fun hc => And.intro (Or.inl rfl) (h0 fun q => q i hi hc)))
      by_cases e' : j = i
      · rw [e']; exact hc
      · exact hj j (by omega)
  exact key 0 (by omega) (fun _ h => absurd h (by omega))
/-- the piece of the move j may be moved by a cue that is armed -/
def rdy (I : Nat → Nat → Nat → Int32) (c j : Nat) : Prop := hangs1 I c j ∧ I 6 (nn (I 5 (4 * c + j) 0)) 4 = 0 ∧ ∀ o, o < 8 → ¬ bz I (I 5 (4 * c + j) 0) o
theorem c_piecesAreReady {c : Nat} (hN : ∀ c, c < 8 → ok (I 1 (40 + c) 1) 5) (hn : ok (I 1 c 1) 5) (hp : ∀ j, j < nn (I 1 c 1) → ok (I 5 (4 * c + j) 0) 6) (h1 : (∀ j, j < nn (I 1 c 1) → rdy I c j) → Q (.inl (some (.inl 1))) (sS L I J)) (h0 : ¬ (∀ j, j < nn (I 1 c 1) → rdy I c j) → Q (.inl (some (.inl 0))) (sS L I J)) : rf_C l 72 [.inr (.inr (some (7, 0))), .inr (.inr (some (1, c)))] (sS L I J) Q := by
  apply rf_C.ofW
  refine rf_goW rf_mo_72 rf_T_72 3 [2] ?_
  have hb : nn (I 1 c 1) < 5 := hn.2
  have key : ∀ i, i ≤ nn (I 1 c 1) → (∀ j, j < i → rdy I c j) → rf_W l 72 2 [some (.inr (.inr (some (7, 0)))), some (.inr (.inr (some (1, c)))), some (.inl (Int32.ofNat i)), none] [] (sS L I J) 0 0 Q := by
    refine lp_dn ?_ ?_
    · intro hj
      exact rf_goW rf_mo_72 rf_T_72 60 [2] (And.intro (fun _ => And.intro (Or.inr rfl) (h1 hj)) (fun hc => absurd ((nn_le hn.1 (by omega)).mpr (Nat.le_refl _)) hc))
    · intro i hi ih hj
      rw [← nt_succ i] at ih
      refine rf_goW rf_mo_72 rf_T_72 60 [2] (And.intro (fun hc => absurd ((nn_le hn.1 (by omega)).mp hc) (by omega)) (fun _ => And.intro (nt_ix (n := 4) (by omega) (by decide)) ?_))
      rw [nt_cl (by omega)]
      refine And.intro (hp i hi) (And.intro (fun hc => And.intro (Or.inl rfl) (h0 fun q => (q i hi).1 hc)) (fun hc => And.intro (hp i hi) (And.intro (fun hd => And.intro (Or.inl rfl) (h0 fun q => hd (q i hi).2.1)) (fun hd => And.intro ⟨by decide, by decide⟩ (c_busyCueOf hN (fun o ho hz _ => ?_) (fun hz => ?_))))))
      · refine And.intro (fun he => absurd he ?_) (fun _ => And.intro (Or.inl rfl) (h0 fun q => (q i hi).2.2 o ho hz))
        have : o = 0 ∨ o = 1 ∨ o = 2 ∨ o = 3 ∨ o = 4 ∨ o = 5 ∨ o = 6 ∨ o = 7 := by omega
        rcases this with rfl | rfl | rfl | rfl | rfl | rfl | rfl | rfl <;> decide
      · refine And.intro (fun _ => fgt (ih fun j hji => ?_) (by repeat (first | exact True.intro | refine And.intro rfl ?_))) (fun q => absurd rfl q)
        by_cases e' : j = i
        · rw [e']; exact ⟨hc, hd, hz⟩
        · exact hj j (by omega)
  exact key 0 (by omega) (fun _ h => absurd h (by omega))
def atG (I : Nat → Nat → Nat → Int32) (i c j : Nat) : Prop := I 100 (3 * i) (nn (I 5 (4 * c + j) 0)) = I 5 (4 * c + j) 1
theorem c_areAtGoals {a c : Nat} (ha : a < 2) (hn : ok (I 1 c 1) 5) (hp : ∀ j, j < nn (I 1 c 1) → ok (I 5 (4 * c + j) 0) 6) (h1 : (∀ j, j < nn (I 1 c 1) → atG I a c j) → Q (.inl (some (.inl 1))) (sS L I J)) (h0 : ¬ (∀ j, j < nn (I 1 c 1) → atG I a c j) → Q (.inl (some (.inl 0))) (sS L I J)) : rf_C l 108 [.inr (.inr (some (4, a))), .inr (.inr (some (1, c)))] (sS L I J) Q := by
  apply rf_C.ofW
  refine rf_goW rf_mo_108 rf_T_108 3 [2] ?_
  have hb : nn (I 1 c 1) < 5 := hn.2
  have key : ∀ i, i ≤ nn (I 1 c 1) → (∀ j, j < i → atG I a c j) → rf_W l 108 2 [some (.inr (.inr (some (4, a)))), some (.inr (.inr (some (1, c)))), some (.inl (Int32.ofNat i))] [] (sS L I J) 0 0 Q := by
    refine lp_dn ?_ ?_
    · intro hj
      exact rf_goW rf_mo_108 rf_T_108 60 [2] (And.intro (fun _ => And.intro (Or.inr rfl) (h1 hj)) (fun hc => absurd ((nn_le hn.1 (by omega)).mpr (Nat.le_refl _)) hc))
    · intro i hi ih hj
      rw [← nt_succ i] at ih
      refine rf_goW rf_mo_108 rf_T_108 60 [2] (And.intro (fun hc => absurd ((nn_le hn.1 (by omega)).mp hc) (by omega)) (fun _ => And.intro (nt_ix (n := 4) (by omega) (by decide)) ?_))
      rw [nt_cl (by omega)]
      refine And.intro (ms_ix ha (by decide) (hp i hi)) (And.intro (nt_ix (n := 4) (by omega) (by decide)) ?_)
      rw [nt_cl (by omega)]
      refine And.intro (fun hc => ih fun j hji => ?_) (fun hc => And.intro (Or.inl rfl) (h0 fun q => hc (q i hi)))
      by_cases e' : j = i
      · rw [e']; exact hc
      · exact hj j (by omega)
  exact key 0 (by omega) (fun _ h => absurd h (by omega))
def stG (I : Nat → Nat → Nat → Int32) (i c j : Nat) : Prop := I 100 (3 * i + 1) (nn (I 5 (4 * c + j) 0)) = 0
theorem c_areStanding {a c : Nat} (ha : a < 2) (hn : ok (I 1 c 1) 5) (hp : ∀ j, j < nn (I 1 c 1) → ok (I 5 (4 * c + j) 0) 6) (h1 : (∀ j, j < nn (I 1 c 1) → stG I a c j) → Q (.inl (some (.inl 1))) (sS L I J)) (h0 : ¬ (∀ j, j < nn (I 1 c 1) → stG I a c j) → Q (.inl (some (.inl 0))) (sS L I J)) : rf_C l 109 [.inr (.inr (some (4, a))), .inr (.inr (some (1, c)))] (sS L I J) Q := by
  apply rf_C.ofW
  refine rf_goW rf_mo_109 rf_T_109 3 [2] ?_
  have hb : nn (I 1 c 1) < 5 := hn.2
  have key : ∀ i, i ≤ nn (I 1 c 1) → (∀ j, j < i → stG I a c j) → rf_W l 109 2 [some (.inr (.inr (some (4, a)))), some (.inr (.inr (some (1, c)))), some (.inl (Int32.ofNat i))] [] (sS L I J) 0 0 Q := by
    refine lp_dn ?_ ?_
    · intro hj
      exact rf_goW rf_mo_109 rf_T_109 60 [2] (And.intro (fun _ => And.intro (Or.inr rfl) (h1 hj)) (fun hc => absurd ((nn_le hn.1 (by omega)).mpr (Nat.le_refl _)) hc))
    · intro i hi ih hj
      rw [← nt_succ i] at ih
      refine rf_goW rf_mo_109 rf_T_109 60 [2] (And.intro (fun hc => absurd ((nn_le hn.1 (by omega)).mp hc) (by omega)) (fun _ => And.intro (nt_ix (n := 4) (by omega) (by decide)) ?_))
      rw [nt_cl (by omega)]
      refine And.intro (ms_ix ha (by decide) (hp i hi)) (And.intro (fun hc => ih fun j hji => ?_) (fun hc => And.intro (Or.inl rfl) (h0 fun q => hc (q i hi))))
      by_cases e' : j = i
      · rw [e']; exact hc
      · exact hj j (by omega)
  exact key 0 (by omega) (fun _ h => absurd h (by omega))
/-! the drives of a piece -/
def hbd (I : Nat → Nat → Nat → Int32) (p : Int32) (i : Nat) : Prop := I 2 i 0 = p ∧ (¬ I 2 i 3 = 0 ∨ 4 ≤ I 2 i 2)
theorem c_hasBrakingDrive {p : Int32} (h1 : (∃ i, i < 12 ∧ hbd I p i) → Q (.inl (some (.inl 1))) (sS L I J)) (h0 : ¬ (∃ i, i < 12 ∧ hbd I p i) → Q (.inl (some (.inl 0))) (sS L I J)) : rf_C l 118 [.inr (.inr (some (7, 0))), .inl p] (sS L I J) Q := by
  apply rf_C.ofW
  refine rf_goW rf_mo_118 rf_T_118 12 [11] ?_
  have key : ∀ i, i ≤ 12 → (∀ j, j < i → ¬ hbd I p j) → rf_W l 118 11 [some (.inr (.inr (some (7, 0)))), some (.inl p), some (.inr (.inr (some (103, 0)))), some (.inl (Int32.ofNat 12)), some (.inl (Int32.ofNat i)), none] [] (sS L I J) 0 0 Q := by
    refine lp_dn ?_ ?_
    · intro hj
      exact rf_goW rf_mo_118 rf_T_118 60 [11] (And.intro (fun _ => And.intro (Or.inl rfl) (h0 fun ⟨c, q1, q2⟩ => hj c q1 q2)) (fun hc => absurd (Int32.le_refl _) hc))
    · intro i hi ih hj
      rw [← nt_succ i] at ih
      have nx : ¬ hbd I p i → ∀ j, j < i + 1 → ¬ hbd I p j := fun hz j hji => by
        by_cases e' : j = i
        · rw [e']; exact hz
        · exact hj j (by omega)
      refine rf_goW rf_mo_118 rf_T_118 60 [11] (And.intro (fun hc => absurd ((nt_le (i := 12) (by omega) (by omega)).mp hc) (by omega)) (fun _ => And.intro (nt_ix (n := 12) hi (by decide)) ?_))
      rw [nt_cl (by omega)]
      refine And.intro (fun hc => fgt (ih (nx fun q => hc q.1)) (by repeat (first | exact True.intro | refine And.intro rfl ?_))) (fun hc => And.intro (fun hd => And.intro (Or.inr rfl) (h1 ⟨i, hi, hc, Or.inl hd⟩)) (fun hd => And.intro ⟨by decide, by decide⟩ (c_isUninformed (fun he => br_eq1 (And.intro (Or.inr rfl) (h1 ⟨i, hi, hc, Or.inr he⟩))) (fun he => br_eq0 (fgt (ih (nx fun q => q.2.elim (fun r => r hd) he)) (by repeat (first | exact True.intro | refine And.intro rfl ?_)))))))
  exact key 0 (by omega) (fun _ h => absurd h (by omega))
/-- the lowest, the highest drive of a piece, out of the rows of pieces and places -/
def lowF (r a : Nat → Int32) (p : Int32) : Nat → Int32
  | 0 => 400
  | i + 1 => if r i = p then mn (lowF r a p i) (a i) else lowF r a p i
def hghF (r a : Nat → Int32) (p : Int32) : Nat → Int32
  | 0 => 0
  | i + 1 => if r i = p then mx (hghF r a p i) (a i) else hghF r a p i
def dP (I : Nat → Nat → Nat → Int32) : Nat → Int32 := fun h => I 2 h 0
def dA (I : Nat → Nat → Nat → Int32) : Nat → Int32 := fun h => I 2 h 1
theorem c_lowestDrive {p : Int32} (hq : Q (.inl (some (.inl (lowF (dP I) (dA I) p 12)))) (sS L I J)) : rf_C l 119 [.inr (.inr (some (7, 0))), .inl p] (sS L I J) Q := by
  apply rf_C.ofW
  refine rf_goW rf_mo_119 rf_T_119 14 [16] ?_
  have key : ∀ i, i ≤ 12 → rf_W l 119 16 [some (.inr (.inr (some (7, 0)))), some (.inl p), some (.inl (lowF (dP I) (dA I) p i)), some (.inr (.inr (some (103, 0)))), some (.inl (Int32.ofNat 12)), some (.inl (Int32.ofNat i)), none] [] (sS L I J) 0 0 Q := by
    refine lp_dn ?_ ?_
    · exact rf_goW rf_mo_119 rf_T_119 60 [16] (And.intro (fun _ => hq) (fun hc => absurd (Int32.le_refl _) hc))
    · intro i hi ih
      rw [← nt_succ i, lowF] at ih
      refine rf_goW rf_mo_119 rf_T_119 60 [16] (And.intro (fun hc => absurd ((nt_le (i := 12) (by omega) (by omega)).mp hc) (by omega)) (fun _ => And.intro (nt_ix (n := 12) hi (by decide)) ?_))
      rw [nt_cl (by omega)]
      refine And.intro (fun hc => ?_) (fun hc => And.intro ⟨by decide, by decide⟩ (c_min ?_))
      · rw [if_neg (show ¬ dP I i = p from hc)] at ih
        exact fgt ih (by repeat (first | exact True.intro | refine And.intro rfl ?_))
      · rw [if_pos (show dP I i = p from hc)] at ih
        exact fgt ih (by repeat (first | exact True.intro | refine And.intro rfl ?_))
  exact key 0 (by omega)
theorem c_highestDrive {p : Int32} (hq : Q (.inl (some (.inl (hghF (dP I) (dA I) p 12)))) (sS L I J)) : rf_C l 120 [.inr (.inr (some (7, 0))), .inl p] (sS L I J) Q := by
  apply rf_C.ofW
  refine rf_goW rf_mo_120 rf_T_120 14 [14] ?_
  have key : ∀ i, i ≤ 12 → rf_W l 120 14 [some (.inr (.inr (some (7, 0)))), some (.inl p), some (.inl (hghF (dP I) (dA I) p i)), some (.inr (.inr (some (103, 0)))), some (.inl (Int32.ofNat 12)), some (.inl (Int32.ofNat i)), none] [] (sS L I J) 0 0 Q := by
    refine lp_dn ?_ ?_
    · exact rf_goW rf_mo_120 rf_T_120 60 [14] (And.intro (fun _ => hq) (fun hc => absurd (Int32.le_refl _) hc))
    · intro i hi ih
      rw [← nt_succ i, hghF] at ih
      refine rf_goW rf_mo_120 rf_T_120 60 [14] (And.intro (fun hc => absurd ((nt_le (i := 12) (by omega) (by omega)).mp hc) (by omega)) (fun _ => And.intro (nt_ix (n := 12) hi (by decide)) ?_))
      rw [nt_cl (by omega)]
      refine And.intro (fun hc => ?_) (fun hc => And.intro ⟨by decide, by decide⟩ (c_max ?_))
      · rw [if_neg (show ¬ dP I i = p from hc)] at ih
        exact fgt ih (by repeat (first | exact True.intro | refine And.intro rfl ?_))
      · rw [if_pos (show dP I i = p from hc)] at ih
        exact fgt ih (by repeat (first | exact True.intro | refine And.intro rfl ?_))
  exact key 0 (by omega)
def lea (I : Nat → Nat → Nat → Int32) (p : Nat) : Int32 := if 0 < I 6 p 3 then I 6 p 2 / I 6 p 3 else 0
theorem c_learnt' {p : Nat} {σ : rf_S} (hq : Q (.inl (some (.inl (lea σ.2.2.1 p)))) σ) : rf_C l 121 [.inr (.inr (some (6, p)))] σ Q := by
  refine c_learnt (fun h => ?_) (fun h => ?_)
  · rw [lea, if_pos h] at hq; exact hq
  · rw [lea, if_neg h] at hq; exact hq
def lod (I : Nat → Nat → Nat → Int32) (h : Nat) : Int32 := if I 2 h 8 = -1 then (if I 2 h 0 = -1 then 0 else lea I (nn (I 2 h 0))) else I 2 h 8
theorem c_loadOf {h : Nat} (hp : ¬ I 2 h 0 = -1 → ok (I 2 h 0) 6) (hq : Q (.inl (some (.inl (lod I h)))) (sS L I J)) : rf_C l 122 [.inr (.inr (some (7, 0))), .inr (.inr (some (2, h)))] (sS L I J) Q := by
  apply rf_C.ofW
  refine rf_goW rf_mo_122 rf_T_122 60 [] (And.intro (fun (hc : I 2 h 8 = -1) => And.intro (fun (hd : ¬ I 2 h 0 = -1) => And.intro (hp hd) (And.intro ⟨by decide, by decide⟩ (c_learnt' ?_))) (fun (hd : I 2 h 0 = -1) => ?_)) (fun (hc : ¬ I 2 h 8 = -1) => ?_))
  · rw [lod, if_pos hc, if_neg hd] at hq; exact hq
  · rw [lod, if_pos hc, if_pos hd] at hq; exact hq
  · rw [lod, if_neg hc] at hq; exact hq
/-- the load shown is too small or too large -/
def wrg (a n : Int32) : Prop := lg_cmp (Int32.toInt64 2 * a.toInt64) n.toInt64 < 0 ∨ 0 < lg_cmp (Int32.toInt64 2 * a.toInt64) (Int32.toInt64 3 * n.toInt64)
def wld (I : Nat → Nat → Nat → Int32) (p : Int32) (i : Nat) : Prop := I 2 i 0 = p ∧ wrg (lod I i) (lea I (nn p))
theorem c_hasWrongLoad {p : Int32} (hp : ok p 6) (hd : ∀ h, h < 12 → ¬ I 2 h 0 = -1 → ok (I 2 h 0) 6) (h1 : (∃ i, i < 12 ∧ wld I p i) → Q (.inl (some (.inl 1))) (sS L I J)) (h0 : ¬ (∃ i, i < 12 ∧ wld I p i) → Q (.inl (some (.inl 0))) (sS L I J)) : rf_C l 123 [.inr (.inr (some (7, 0))), .inl p] (sS L I J) Q := by
  apply rf_C.ofW
  refine rf_goW rf_mo_123 rf_T_123 25 [25] (And.intro hp (And.intro ⟨by decide, by decide⟩ (c_learnt' ?_)))
  have key : ∀ i, i ≤ 12 → (∀ j, j < i → ¬ wld I p j) → rf_W l 123 25 [some (.inr (.inr (some (7, 0)))), some (.inl p), some (.inr (.inl (lea I (nn p)).toInt64)), none, some (.inr (.inr (some (103, 0)))), some (.inl (Int32.ofNat 12)), some (.inl (Int32.ofNat i)), none, none, none] [] (sS L I J) 0 0 Q := by
    refine lp_dn ?_ ?_
    · intro hj
      exact rf_goW rf_mo_123 rf_T_123 60 [25] (And.intro (fun _ => And.intro (Or.inl rfl) (h0 fun ⟨c, q1, q2⟩ => hj c q1 q2)) (fun hc => absurd (Int32.le_refl _) hc))
    · intro i hi ih hj
      rw [← nt_succ i] at ih
      have nx : ¬ wld I p i → ∀ j, j < i + 1 → ¬ wld I p j := fun hz j hji => by
        by_cases e' : j = i
        · rw [e']; exact hz
        · exact hj j (by omega)
      refine rf_goW rf_mo_123 rf_T_123 60 [25] (And.intro (fun hc => absurd ((nt_le (i := 12) (by omega) (by omega)).mp hc) (by omega)) (fun _ => And.intro (nt_ix (n := 12) hi (by decide)) ?_))
      rw [nt_cl (by omega)]
      refine And.intro (fun hc => fgt (ih (nx fun q => hc q.1)) (by repeat (first | exact True.intro | refine And.intro rfl ?_))) (fun hc => And.intro ⟨by decide, by decide⟩ (c_loadOf (hd i hi) ?_))
      refine And.intro (fun ha => And.intro (Or.inr rfl) (h1 ⟨i, hi, hc, Or.inl ha⟩)) (fun ha => And.intro (fun hb => fgt (ih (nx fun q => q.2.elim ha (i_nlt.mpr hb))) (by repeat (first | exact True.intro | refine And.intro rfl ?_))) (fun hb => And.intro (Or.inr rfl) (h1 ⟨i, hi, hc, Or.inr (i_nle.mp hb)⟩)))
  exact key 0 (by omega) (fun _ h => absurd h (by omega))
/-- why the piece p stands, its master at a -/
def rsn (I : Nat → Nat → Nat → Int32) (p a x : Int32) : Prop := ((∃ i, i < 12 ∧ hbd I p i) ∧ x = 1) ∨ (¬ (∃ i, i < 12 ∧ hbd I p i) ∧
  ((20 < hghF (dP I) (dA I) p 12 - a ∨ 20 < a - lowF (dP I) (dA I) p 12) ∧ x = 2 ∨ ¬ (20 < hghF (dP I) (dA I) p 12 - a ∨ 20 < a - lowF (dP I) (dA I) p 12) ∧
    (15 < hghF (dP I) (dA I) p 12 - lowF (dP I) (dA I) p 12 ∧ x = 3 ∨ ¬ 15 < hghF (dP I) (dA I) p 12 - lowF (dP I) (dA I) p 12 ∧
      ((∃ i, i < 12 ∧ wld I p i) ∧ x = 4 ∨ ¬ (∃ i, i < 12 ∧ wld I p i) ∧ x = 0))))
theorem c_reasonWithMasterAt {p a : Int32} (hp : ok p 6) (hd : ∀ h, h < 12 → ¬ I 2 h 0 = -1 → ok (I 2 h 0) 6) (hq : ∀ x, rsn I p a x → Q (.inl (some (.inl x))) (sS L I J)) : rf_C l 124 [.inr (.inr (some (7, 0))), .inl p, .inl a] (sS L I J) Q := by
  apply rf_C.ofW
  refine rf_goW rf_mo_124 rf_T_124 60 [] (And.intro ⟨by decide, by decide⟩ (c_hasBrakingDrive (fun g1 => br_eq1 (hq 1 (Or.inl ⟨g1, rfl⟩))) (fun g1 => br_eq0 ?_)))
  refine And.intro ⟨by decide, by decide⟩ (c_lowestDrive (And.intro ⟨by decide, by decide⟩ (c_highestDrive (And.intro (fun g2 => hq 2 (Or.inr ⟨g1, Or.inl ⟨Or.inl g2, rfl⟩⟩)) (fun g2 => And.intro (fun g3 => ?_) (fun g3 => hq 2 (Or.inr ⟨g1, Or.inl ⟨Or.inr (i_nle.mp g3), rfl⟩⟩)))))))
  have g4 : ¬ (20 < hghF (dP I) (dA I) p 12 - a ∨ 20 < a - lowF (dP I) (dA I) p 12) := fun q => q.elim g2 (i_nlt.mpr g3)
  refine And.intro (fun g5 => And.intro ⟨by decide, by decide⟩ (c_hasWrongLoad hp hd (fun g6 => br_eq1 ?_) (fun g6 => br_eq0 ?_))) (fun g5 => hq 3 (Or.inr ⟨g1, Or.inr ⟨g4, Or.inl ⟨i_nle.mp g5, rfl⟩⟩⟩))
  · exact hq 4 (Or.inr ⟨g1, Or.inr ⟨g4, Or.inr ⟨i_nlt.mpr g5, Or.inl ⟨g6, rfl⟩⟩⟩⟩)
  · exact hq 0 (Or.inr ⟨g1, Or.inr ⟨g4, Or.inr ⟨i_nlt.mpr g5, Or.inr ⟨g6, rfl⟩⟩⟩⟩)
end LK
