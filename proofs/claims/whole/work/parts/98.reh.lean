/-! the class: rehearse -/
section LR2
variable {l : Launch} {Q : rf_O → rf_S → Prop} {L : Nat} {I : Nat → Nat → Nat → Int32} {J : Nat → Nat → Nat → Int64} {σ : rf_S}
def allG (P : Nat → Nat → Int32) (n : Nat) (a : Nat → Int32) : Prop := ∀ j, j < n → a (nn (P 0 j)) = P 1 j
/-- so many ticks of a rehearsal -/
noncomputable def reF (P : Nat → Nat → Int32) (b : Nat → Int32) (n : Nat) (s : (Nat → Int32) × (Nat → Int32)) : Nat → (Nat → Int32) × (Nat → Int32)
  | 0 => s
  | k + 1 => cif (allG P n (reF P b n s k).1) (reF P b n s k) (advR P b 1 (reF P b n s k) n)
theorem reF_stay {P : Nat → Nat → Int32} {b : Nat → Int32} {n : Nat} {s : (Nat → Int32) × (Nat → Int32)} {k : Nat} (h : allG P n (reF P b n s k).1) : ∀ d, reF P b n s (k + d) = reF P b n s k
  | 0 => rfl
  | d + 1 => by
    have ih := reF_stay (s := s) h d
    show reF P b n s (k + d + 1) = _
    rw [reF, ih, cif_t h]
theorem reF_v {P : Nat → Nat → Int32} {b : Nat → Int32} {n : Nat} {s : (Nat → Int32) × (Nat → Int32)} (hv : ∀ p, p < 6 → ok (s.2 p) 13) (hP : ∀ m, m < n → ok (P 0 m) 6 ∧ ok (P 2 m) 13) : ∀ k p, p < 6 → ok ((reF P b n s k).2 p) 13
  | 0, p, hp => hv p hp
  | k + 1, p, hp => by
    have ih := reF_v (b := b) hv hP k
    rw [reF]
    by_cases h : allG P n (reF P b n s k).1
    · rw [cif_t h]; exact ih p hp
    · rw [cif_f h]; exact advR_v (b := b) (h := 1) ih hP n (Nat.le_refl _) p hp
def rhA (I : Nat → Nat → Nat → Int32) : Nat → Int32 := slR (I 100 0) (I 100 3) 6
def rhV (I : Nat → Nat → Nat → Int32) : Nat → Int32 := slR (fun _ => 0) (I 100 4) 6
def rhG (I : Nat → Nat → Nat → Int32) (c : Nat) : Nat → Int32 := bgF (pP I c 0) (rhA I) (I 100 5) (nn (I 1 c 1))
def rhI (I : Nat → Nat → Nat → Int32) (c : Nat) : Nat → Nat → Nat → Int32 := ro (ms2 I 1 (rhA I) (rhV I)) 100 5 (rhG I c)
def rhB (I : Nat → Nat → Nat → Int32) (c : Nat) : Nat → Int32 := fun m => rhG I c (nn (pP I c 0 m))
def rhC (I : Nat → Nat → Nat → Int32) (c : Nat) (p : Int32) : Prop := hasMv I c p ∧ ∀ j, j < nn (I 1 c 1) → hangs1 I c j
theorem c_rehearse {c p n : Int32} (hI : ∀ c, c < 8 → plOk I (40 + c)) (h0 : ¬ (ok c 8 ∧ ok n 401 ∧ rhC I (40 + nn c) p) → Q (.inl (some (.inl (-1)))) (sS L I J))
    (hq : ok c 8 → ok n 401 → rhC I (40 + nn c) p → ∀ s, s = reF (pP I (40 + nn c)) (rhB I (40 + nn c)) (nn (I 1 (40 + nn c) 1)) (rhA I, rhV I) (nn n) → Q (.inl (some (.inl (s.1 (nn p))))) (sS L (ms2 (rhI I (40 + nn c)) 1 s.1 s.2) J)) : rf_C l 161 [.inr (.inr (some (7, 0))), .inl c, .inl p, .inl n] (sS L I J) Q := by
  apply rf_C.ofW
  refine rf_goW rf_mo_161 rf_T_161 60 [78] (And.intro ⟨by decide, by decide⟩ (c_inIx (n := 7) (by decide) (fun a1 => br_eq1 (And.intro ⟨by decide, by decide⟩ (c_inIx (n := 400) (by decide) (fun a2 => br_ne1 (And.intro a1 ?_)) (fun a2 => br_ne0 (h0 fun q => a2 q.2.1))))) (fun a1 => br_eq0 (h0 fun q => a1 q.1))))
  have hc : plOk I (40 + nn c) := hI _ a1.2
  have hp0 : ∀ j, j < nn (I 1 (40 + nn c) 1) → ok (I 5 (4 * (40 + nn c) + j) 0) 6 := fun j hj => (hc.2 j hj).1
  have n400 : nn n < 401 := a2.2
  refine And.intro ⟨by decide, by decide⟩ (c_hasMoveOf hc.1 (fun b1 => br_eq1 (And.intro a1 (And.intro ⟨by decide, by decide⟩ (c_piecesHang hc.1 hp0 (fun b2 => br_ne1 ?_) (fun b2 => br_ne0 (h0 fun q => b2 q.2.2.2)))))) (fun b1 => br_eq0 (h0 fun q => b1 q.2.2.1)))
  have hq' := hq a1 a2 ⟨b1, b2⟩
  have op : ok p 6 := by
    obtain ⟨m, hm, e⟩ := b1
    have := (hc.2 m hm).1
    have e' : I 5 (4 * (40 + nn c) + m) 0 = p := e
    rw [e'] at this
    exact this
  have f1 : rhI I (40 + nn c) 1 = I 1 := by rw [rhI, ro_b (by decide), ms2_b (by decide)]
  have f5 : rhI I (40 + nn c) 5 = I 5 := by rw [rhI, ro_b (by decide), ms2_b (by decide)]
  have f3 : rhI I (40 + nn c) 100 3 = rhA I := by rw [rhI, ro_ne (by decide)]; exact ms2_a (i := 1)
  have f4 : rhI I (40 + nn c) 100 4 = rhV I := by rw [rhI, ro_ne (by decide)]; exact ms2_v (i := 1)
  have fb : rhI I (40 + nn c) 100 5 = rhG I (40 + nn c) := ro_self
  have hv0 : ∀ q, q < 6 → ok ((rhA I, rhV I).2 q) 13 := by
    intro q hq
    show ok (slR (fun _ => 0) (I 100 4) 6 q) 13
    rw [slR, if_pos hq]
    exact ⟨by decide, by decide⟩
  have hP : ∀ m, m < nn (I 1 (40 + nn c) 1) → ok (pP I (40 + nn c) 0 m) 6 ∧ ok (pP I (40 + nn c) 2 m) 13 := fun m hm => ⟨(hc.2 m hm).1, (hc.2 m hm).2.1⟩
  have key : ∀ k, k ≤ nn n → ∀ s, s = reF (pP I (40 + nn c)) (rhB I (40 + nn c)) (nn (I 1 (40 + nn c) 1)) (rhA I, rhV I) k → rf_W l 161 78 [some (.inr (.inr (some (7, 0)))), some (.inl c), some (.inl p), some (.inl n), some (.inl (Int32.ofNat k))] [] (sS L (ms2 (rhI I (40 + nn c)) 1 s.1 s.2) J) 0 0 Q := by
    have out : ∀ (k : Nat) s, s = reF (pP I (40 + nn c)) (rhB I (40 + nn c)) (nn (I 1 (40 + nn c) 1)) (rhA I, rhV I) (nn n) → rf_W l 161 120 [some (.inr (.inr (some (7, 0)))), some (.inl c), some (.inl p), some (.inl n), some (.inl (Int32.ofNat k))] [] (sS L (ms2 (rhI I (40 + nn c)) 1 s.1 s.2) J) 0 0 Q := by
      intro k s hs
      refine rf_goW rf_mo_161 rf_T_161 60 [] (And.intro op ?_)
      have e : (sS L (ms2 (rhI I (40 + nn c)) 1 s.1 s.2) J).2.2.1 100 (3 * 1 + 0) (nn p) = s.1 (nn p) := by
        show ms2 (rhI I (40 + nn c)) 1 s.1 s.2 100 (3 * 1) (nn p) = _
        rw [ms2_a]
      have := hq' s hs
      rw [← e] at this
      exact this
    refine lp_dn ?_ ?_
    · intro s hs
      exact rf_goW rf_mo_161 rf_T_161 60 [78, 120] (And.intro (fun _ => out _ s hs) (fun hd => absurd ((nn_le a2.1 (by omega)).mpr (Nat.le_refl _)) hd))
    · intro k hk ih s hs
      rw [← nt_succ k] at ih
      have e1 : ms2 (rhI I (40 + nn c)) 1 s.1 s.2 1 = I 1 := by rw [ms2_b (by decide), f1]
      have e5 : ms2 (rhI I (40 + nn c)) 1 s.1 s.2 5 = I 5 := by rw [ms2_b (by decide), f5]
      have ea : ms2 (rhI I (40 + nn c)) 1 s.1 s.2 100 (3 * 1) = s.1 := ms2_a
      have ev : ms2 (rhI I (40 + nn c)) 1 s.1 s.2 100 (3 * 1 + 1) = s.2 := ms2_v
      have eb : ms2 (rhI I (40 + nn c)) 1 s.1 s.2 100 (3 * 1 + 2) = rhG I (40 + nn c) := by rw [ms2_o (by decide) (by decide)]; exact fb
      have hc' : plOk (ms2 (rhI I (40 + nn c)) 1 s.1 s.2) (40 + nn c) := by
        unfold plOk
        rw [e1, e5]
        exact hc
      have ag : (∀ j, j < nn (ms2 (rhI I (40 + nn c)) 1 s.1 s.2 1 (40 + nn c) 1) → atG (ms2 (rhI I (40 + nn c)) 1 s.1 s.2) 1 (40 + nn c) j) ↔ allG (pP I (40 + nn c)) (nn (I 1 (40 + nn c) 1)) s.1 := by
        unfold atG allG
        rw [e1, e5, ea]
        exact Iff.rfl
      refine rf_goW rf_mo_161 rf_T_161 60 [78, 120] (And.intro (fun hd => absurd ((nn_le a2.1 (by omega)).mp hd) (by omega)) (fun _ => And.intro a1 (And.intro ⟨by decide, by decide⟩ (c_areAtGoals (a := 1) (by decide) hc'.1 (fun j hj => (hc'.2 j hj).1) (fun g => br_ne1 (out _ s ?_)) (fun g => br_ne0 (And.intro a1 (And.intro ⟨by decide, by decide⟩ (c_advance (i := 1) (by decide) hc' ?_ (fun s' hs' => ?_)))))))))
      · have g' := ag.mp g
        rw [hs] at g'
        have := reF_stay g' (nn n - k)
        rw [show k + (nn n - k) = nn n by omega] at this
        rw [hs, this]
      · intro q hq6
        rw [ev, hs]
        exact reF_v (P := pP I (40 + nn c)) (b := rhB I (40 + nn c)) hv0 hP k q hq6
      · rw [ms2_2]
        refine ih s' ?_
        have g' : ¬ allG (pP I (40 + nn c)) (nn (I 1 (40 + nn c) 1)) s.1 := fun q => g (ag.mpr q)
        rw [reF, ← hs, cif_f g', hs', ea, ev, e1]
        unfold bgR
        rw [eb]
        unfold pP
        rw [e5]
        rfl
  have k0 := key 0 (by omega) _ rfl
  rw [reF] at k0
  have e0 : ms2 (rhI I (40 + nn c)) 1 (rhA I) (rhV I) = rhI I (40 + nn c) := by
    have := ms2_id (I := rhI I (40 + nn c)) (i := 1)
    rw [show rhI I (40 + nn c) 100 (3 * 1) = rhA I from f3, show rhI I (40 + nn c) 100 (3 * 1 + 1) = rhV I from f4] at this
    exact this
  have g1 : ms2 I 1 (rhA I) (rhV I) 1 = I 1 := ms2_b (by decide)
  have g5 : ms2 I 1 (rhA I) (rhV I) 5 = I 5 := ms2_b (by decide)
  refine And.intro ⟨by decide, by decide⟩ (c_standLike (And.intro a1 (And.intro ⟨by decide, by decide⟩ (c_beginHere (I := ms2 I 1 (rhA I) (rhV I)) (i := 1) (by decide) (by rw [g1]; exact hc.1) (fun j hj => by rw [g1] at hj; rw [g5]; exact hp0 j hj) ?_))))
  have es : ro (ms2 I 1 (rhA I) (rhV I)) 100 (3 * 1 + 2) (bgF (pP (ms2 I 1 (rhA I) (rhV I)) (40 + nn c) 0) (ms2 I 1 (rhA I) (rhV I) 100 (3 * 1)) (ms2 I 1 (rhA I) (rhV I) 100 (3 * 1 + 2)) (nn (ms2 I 1 (rhA I) (rhV I) 1 (40 + nn c) 1))) = rhI I (40 + nn c) := by
    have q5 : pP (ms2 I 1 (rhA I) (rhV I)) (40 + nn c) 0 = pP I (40 + nn c) 0 := by unfold pP; rw [g5]
    rw [q5, g1, ms2_a, ms2_o (by decide) (by decide)]
    rfl
  have k1 : rf_W l 161 78 [some (.inr (.inr (some (7, 0)))), some (.inl c), some (.inl p), some (.inl n), some (.inl (Int32.ofNat 0))] [] (sS L (rhI I (40 + nn c)) J) 0 0 Q := by
    rw [← e0]
    exact k0
  rw [← es] at k1
  exact k1
end LR2
