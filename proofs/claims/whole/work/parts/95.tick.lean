/-! the class: go, halt, tick, clearReason, unhang -/
section LT
variable {l : Launch} {Q : rf_O → rf_S → Prop} {L : Nat} {I : Nat → Nat → Nat → Int32} {J : Nat → Nat → Nat → Int64} {σ : rf_S}
/-- go, of the first c cues: states, how many -/
noncomputable def goF (t : Nat → Int32) (s : Int32) (x : Nat → Int32) : Nat → (Nat → Int32) × Int32
  | 0 => (x, 0)
  | c + 1 => cif (t c = s ∧ ((goF t s x c).1 c = 1 ∨ (goF t s x c).1 c = 3)) (uf (goF t s x c).1 c 2, (goF t s x c).2 + 1) (goF t s x c)
def kS (I : Nat → Nat → Nat → Int32) (c : Nat) : Int32 := I 1 (40 + c) 2
theorem c_go {s : Int32} (h0 : ¬ ok s 3 → Q (.inr 0) (sS L I J)) (h2 : ok s 3 → I 101 0 (nn s) = 0 → Q (.inr 2) (sS L I J))
    (hq : ok s 3 → ¬ I 101 0 (nn s) = 0 → ∀ r, r = goF (kS I) s (stX I) 8 → Q (.inl (some (.inl r.2))) (sS L (stI I r.1) J)) : rf_C l 94 [.inr (.inr (some (7, 0))), .inl s] (sS L I J) Q := by
  apply rf_C.ofW
  refine rf_goW rf_mo_94 rf_T_94 40 [28] (And.intro ⟨by decide, by decide⟩ (c_checkIx (n := 3) (by decide) (fun a1 => And.intro a1 (And.intro ⟨by decide, by decide⟩ (c_checkState (fun e => ?_) (fun e => h2 a1 e)))) h0))
  have key : ∀ c, c ≤ 8 → ∀ r, r = goF (kS I) s (stX I) c → rf_W l 94 28 [some (.inr (.inr (some (7, 0)))), some (.inl s), some (.inl r.2), some (.inr (.inr (some (105, 0)))), some (.inl (Int32.ofNat 8)), some (.inl (Int32.ofNat c)), none] [] (sS L (stI I r.1) J) 2 12 Q := by
    refine lp_dn ?_ ?_
    · intro r hr
      exact rf_goW rf_mo_94 rf_T_94 60 [28] (And.intro (fun _ => hq a1 e r hr) (fun hd => absurd (Int32.le_refl _) hd))
    · intro c hi ih r hr
      rw [← nt_succ c] at ih
      refine rf_goW rf_mo_94 rf_T_94 60 [28] (And.intro (fun hd => absurd ((nt_le (i := 8) (by omega) (by omega)).mp hd) (by omega)) (fun _ => And.intro (nt_ix (n := 8) hi (by decide)) ?_))
      rw [nt_cl (by omega)]
      have e2 : stI I r.1 1 (40 + c) 2 = kS I c := stI_f (by decide)
      have e3 : stI I r.1 1 (40 + c) 3 = r.1 c := stI_x hi
      have yes : kS I c = s → (r.1 c = 1 ∨ r.1 c = 3) → rf_W l 94 28 [some (.inr (.inr (some (7, 0)))), some (.inl s), some (.inl (r.2 + 1)), some (.inr (.inr (some (105, 0)))), some (.inl (Int32.ofNat 8)), some (.inl (Int32.ofNat c + 1)), some (.inr (.inr (some (1, 40 + c))))] [] (sS L (rf_u3 (stI I r.1) 1 (40 + c) 3 2) J) 2 12 Q := by
        intro q1 q2
        rw [stI_u3 hi]
        refine fgt (ih (uf r.1 c 2, r.2 + 1) ?_) (by repeat (first | exact True.intro | refine And.intro rfl ?_))
        rw [goF, ← hr, cif_t ⟨q1, q2⟩]
      have no : ¬ (kS I c = s ∧ (r.1 c = 1 ∨ r.1 c = 3)) → rf_W l 94 28 [some (.inr (.inr (some (7, 0)))), some (.inl s), some (.inl r.2), some (.inr (.inr (some (105, 0)))), some (.inl (Int32.ofNat 8)), some (.inl (Int32.ofNat c + 1)), some (.inr (.inr (some (1, 40 + c))))] [] (sS L (stI I r.1) J) 2 12 Q := by
        intro q
        refine fgt (ih r ?_) (by repeat (first | exact True.intro | refine And.intro rfl ?_))
        rw [goF, ← hr, cif_f q]
      exact And.intro (fun f => no fun q => f (e2.trans q.1)) (fun f => And.intro (fun g => yes (e2.symm.trans f) (Or.inl (e3.symm.trans g))) (fun g => And.intro (fun k => no fun q => q.2.elim (fun u => g (e3.trans u)) (fun u => k (e3.trans u))) (fun k => yes (e2.symm.trans f) (Or.inr (e3.symm.trans k)))))
  have k0 := key 0 (by omega) _ rfl
  rw [goF, stI_id] at k0
  exact k0
/-- halt, of the first c cues: states, speeds, how many -/
noncomputable def hlF (t : Nat → Int32) (s : Int32) (P : Nat → Nat → Int32) (n : Nat → Nat) (x v : Nat → Int32) : Nat → ((Nat → Int32) × (Nat → Int32)) × Int32
  | 0 => ((x, v), 0)
  | c + 1 => cif (t c = s ∧ bsy ((hlF t s P n x v c).1.1 c)) ((uf (hlF t s P n x v c).1.1 c 5, stR (P c) (hlF t s P n x v c).1.2 (n c)), (hlF t s P n x v c).2 + 1) (hlF t s P n x v c)
theorem c_halt {s : Int32} (hc : ∀ c, c < 8 → plOk I (40 + c)) (h0 : ¬ ok s 3 → Q (.inr 0) (sS L I J))
    (hq : ok s 3 → ∀ r, r = hlF (kS I) s (kQ I) (kN I) (stX I) (I 100 1) 8 → Q (.inl (some (.inl r.2))) (sS L (wsI I (reQ I, r.1)) J)) : rf_C l 99 [.inr (.inr (some (7, 0))), .inl s] (sS L I J) Q := by
  apply rf_C.ofW
  refine rf_goW rf_mo_99 rf_T_99 40 [19] (And.intro ⟨by decide, by decide⟩ (c_checkIx (n := 3) (by decide) (fun a1 => ?_) h0))
  have key : ∀ c, c ≤ 8 → ∀ r, r = hlF (kS I) s (kQ I) (kN I) (stX I) (I 100 1) c → rf_W l 99 19 [some (.inr (.inr (some (7, 0)))), some (.inl s), some (.inl r.2), some (.inr (.inr (some (105, 0)))), some (.inl (Int32.ofNat 8)), some (.inl (Int32.ofNat c)), none] [] (sS L (wsI I (reQ I, r.1)) J) 1 6 Q := by
    refine lp_dn ?_ ?_
    · intro r hr
      exact rf_goW rf_mo_99 rf_T_99 60 [19] (And.intro (fun _ => hq a1 r hr) (fun hd => absurd (Int32.le_refl _) hd))
    · intro c hi ih r hr
      rw [← nt_succ c] at ih
      refine rf_goW rf_mo_99 rf_T_99 60 [19] (And.intro (fun hd => absurd ((nt_le (i := 8) (by omega) (by omega)).mp hd) (by omega)) (fun _ => And.intro (nt_ix (n := 8) hi (by decide)) ?_))
      rw [nt_cl (by omega)]
      have e2 : wsI I (reQ I, r.1) 1 (40 + c) 2 = kS I c := wsI_1 (by decide)
      have e3 : wsI I (reQ I, r.1) 1 (40 + c) 3 = r.1.1 c := wsI_x hi
      have e5 : wsI I (reQ I, r.1) 5 = I 5 := wsI_b (by decide) (by decide) (by decide)
      have no : ¬ (kS I c = s ∧ bsy (r.1.1 c)) → rf_W l 99 19 [some (.inr (.inr (some (7, 0)))), some (.inl s), some (.inl r.2), some (.inr (.inr (some (105, 0)))), some (.inl (Int32.ofNat 8)), some (.inl (Int32.ofNat c + 1)), some (.inr (.inr (some (1, 40 + c))))] [] (sS L (wsI I (reQ I, r.1)) J) 1 6 Q := by
        intro q
        refine fgt (ih r ?_) (by repeat (first | exact True.intro | refine And.intro rfl ?_))
        rw [hlF, ← hr, cif_f q]
      have eb : busy (wsI I (reQ I, r.1)) (40 + c) ↔ bsy (r.1.1 c) := by
        unfold busy bsy
        rw [e3]
      refine And.intro (fun f => no fun q => f (e2.trans q.1)) (fun f => And.intro ⟨by decide, by decide⟩ (c_isBusy (fun hb => br_eq1 ?_) (fun hb => br_eq0 (no fun q => hb (eb.mpr q.2)))))
      refine And.intro ⟨by decide, by decide⟩ (c_stopCue (I := wsI I (reQ I, r.1)) (by rw [wsI_1 (by decide)]; exact (hc c hi).1) (fun j hj => by rw [wsI_1 (by decide)] at hj; rw [e5]; exact ((hc c hi).2 j hj).1) ?_)
      have q := ih ((uf r.1.1 c 5, stR (kQ I c) r.1.2 (kN I c)), r.2 + 1) (by rw [hlF, ← hr, cif_t ⟨e2.symm.trans f, eb.mp hb⟩])
      rw [wsI_ux hi, wsI_v, wsI_1 (by decide)]
      unfold pP
      rw [e5]
      exact fgt q (by repeat (first | exact True.intro | refine And.intro rfl ?_))
  have k0 := key 0 (by omega) _ rfl
  rw [hlF, wsI_id] at k0
  exact k0
/-! what the tick keeps -/
def tOk (I : Nat → Nat → Nat → Int32) : Prop := (∀ c, c < 8 → plOk I (40 + c) ∧ ok (I 1 (40 + c) 2) 3) ∧ (∀ p, p < 6 → ok (I 100 1 p) 13) ∧ (∀ h, h < 12 → ¬ I 2 h 0 = -1 → ok (I 2 h 0) 6)
theorem ru2_0 {g : Nat → Int32} {w : Int32} : ru2 g w 0 = g 0 := by
  unfold ru2 ru1
  split
  · simp [uf]
  · split
    · split <;> simp [uf]
    · simp [uf]
theorem ru_0 {r : Nat → Int32} : ru r 0 = r 0 := by
  rw [ru, ru2_0, ru0]
  split <;> simp [uf]
theorem rdR_0 {a r : Nat → Int32} : rdR a r 0 = r 0 := by
  unfold rdR
  split
  · rfl
  · rw [ru_0, liR]
    split <;> simp [uf]
theorem wp2_v {r : Int32} {hm : Nat → Prop} {P : Nat → Nat → Int32} {n : Nat → Nat} {s : (Nat → Int32) × (Nat → Int32) × (Nat → Int32)} (hv : ∀ p, p < 6 → ok (s.2.2 p) 13) : ∀ p, p < 6 → ok ((wp2 r hm P n s).2 p) 13 := by
  unfold wp2
  by_cases h : r = 0
  · rw [cif_t h]; exact hv
  · rw [cif_f h]
    cases fnd (fun c => bsy (s.2.1 c) ∧ hm c) 8 with
    | none => exact hv
    | some c => exact stR_v (n := n c) hv (n c) (Nat.le_refl _)
theorem wpR_v {g rs : Nat → Int32} {hm : Nat → Nat → Prop} {P : Nat → Nat → Int32} {n : Nat → Nat} {s : (Nat → Int32) × (Nat → Int32) × (Nat → Int32)} (hv : ∀ p, p < 6 → ok (s.2.2 p) 13) : ∀ m, ∀ p, p < 6 → ok ((wpR g rs hm P n s m).2.2 p) 13
  | 0, p, hp => hv p hp
  | m + 1, p, hp => by
    have ih := wpR_v (g := g) (rs := rs) (hm := hm) (P := P) (n := n) hv m
    rw [wpR]
    by_cases h : ¬ g m = 0 ∧ (wpR g rs hm P n s m).1 m = 0
    · rw [cif_t h]
      exact wp2_v ih p hp
    · rw [cif_f h]
      exact ih p hp
/-- the cues of a tick; the drives; the pieces -/
noncomputable def tk1 (I : Nat → Nat → Nat → Int32) : Nat → Nat → Nat → Int32 := cs3 I (rcsR (kP I) (kB I) (kH I) (kN I) (stX I, I 100 0, I 100 1) 8)
noncomputable def tk2 (I : Nat → Nat → Nat → Int32) : Nat → Nat → Nat → Int32 := dvI (tk1 I) 12
noncomputable def tk3 (I : Nat → Nat → Nat → Int32) : Nat → Nat → Nat → Int32 := wsI (tk2 I) (wpR (kG (tk2 I)) (kR (tk2 I)) (kM (tk2 I)) (kQ (tk2 I)) (kN (tk2 I)) (reQ (tk2 I), stX (tk2 I), tk2 I 100 1) 6)
noncomputable def tkC (I : Nat → Nat → Nat → Int32) : Int32 := dvC (tk1 I 100 0) (tk1 I 2) 12
theorem tOk_1 (h : tOk I) : tOk (tk1 I) := by
  refine ⟨fun c hc => ?_, ?_, ?_⟩
  · have e5 : tk1 I 5 = I 5 := cs3_b (by decide) (by decide)
    have e1 : tk1 I 1 (40 + c) 1 = I 1 (40 + c) 1 := cs3_1 (by decide)
    have e2 : tk1 I 1 (40 + c) 2 = I 1 (40 + c) 2 := cs3_1 (by decide)
    unfold plOk
    rw [e5, e1, e2]
    exact h.1 c hc
  · intro p hp
    have : tk1 I 100 1 = _ := cs3_v
    rw [this]
    exact rcsR_v (P := kP I) (b := kB I) (h := kH I) (n := kN I) h.2.1 (fun c' hc' m hm => ⟨((h.1 c' hc').1.2 m hm).1, ((h.1 c' hc').1.2 m hm).2.1⟩) 8 (by omega) p hp
  · have e2 : tk1 I 2 = I 2 := cs3_b (by decide) (by decide)
    rw [e2]
    exact h.2.2
theorem tOk_2 (h : tOk I) : tOk (dvI I 12) := by
  refine ⟨?_, ?_, fun k hk => ?_⟩
  · unfold plOk
    rw [dvI_b (by decide), dvI_b (by decide)]
    exact h.1
  · rw [dvI_b (by decide)]
    exact h.2.1
  · have : dvI I 12 2 k 0 = I 2 k 0 := by
      show (if (2 : Nat) = 2 ∧ k < 12 then rdR (I 100 0) (I 2 k) 0 else I 2 k 0) = _
      rw [if_pos ⟨rfl, hk⟩, rdR_0]
    rw [this]
    exact h.2.2 k hk
theorem tOk_3 {s : (Nat → Int32) × (Nat → Int32) × (Nat → Int32)} (h : tOk I) (hs : ∀ p, p < 6 → ok (s.2.2 p) 13) : tOk (wsI I s) := by
  refine ⟨fun c hc => ?_, ?_, ?_⟩
  · have e5 : wsI I s 5 = I 5 := wsI_b (by decide) (by decide) (by decide)
    have e1 : wsI I s 1 (40 + c) 1 = I 1 (40 + c) 1 := wsI_1 (by decide)
    have e2 : wsI I s 1 (40 + c) 2 = I 1 (40 + c) 2 := wsI_1 (by decide)
    unfold plOk
    rw [e5, e1, e2]
    exact h.1 c hc
  · rw [wsI_v]
    exact hs
  · rw [wsI_b (by decide) (by decide) (by decide)]
    exact h.2.2
theorem tOk_t (h : tOk I) : tOk (tk3 I) := tOk_3 (tOk_2 (tOk_1 h)) (wpR_v (s := (reQ (tk2 I), stX (tk2 I), tk2 I 100 1)) (tOk_2 (tOk_1 h)).2.1 6)
/-- so many ticks: the state, how many drives went in the last -/
noncomputable def tkN (I : Nat → Nat → Nat → Int32) : Nat → (Nat → Nat → Nat → Int32) × Int32
  | 0 => (I, 0)
  | n + 1 => (tk3 (tkN I n).1, tkC (tkN I n).1)
theorem c_tick {n : Int32} (hI : tOk I) (h1 : ¬ (0 ≤ n ∧ n ≤ 200) → Q (.inr 1) (sS L I J)) (hq : ok n 201 → Q (.inl (some (.inl (tkN I (nn n)).2))) (sS L (tkN I (nn n)).1 J)) : rf_C l 127 [.inr (.inr (some (7, 0))), .inl n] (sS L I J) Q := by
  apply rf_C.ofW
  refine rf_goW rf_mo_127 rf_T_127 40 [15] (And.intro ⟨by decide, by decide⟩ (c_within2 (fun a1 => And.intro ⟨by decide, by decide⟩ (ka1 ?_)) (fun a1 => And.intro ⟨by decide, by decide⟩ (ka0 (h1 a1)))))
  have a2 : ok n 201 := (wi_ok (n := 200) (by decide)).mp a1
  have hn2 : nn n < 201 := a2.2
  have hk : ∀ m, tOk (tkN I m).1 := by
    intro m
    induction m with
    | zero => exact hI
    | succ m ih => exact tOk_t ih
  have key : ∀ m, m ≤ nn n → rf_W l 127 15 [some (.inr (.inr (some (7, 0)))), some (.inl n), some (.inl (tkN I m).2), some (.inl (Int32.ofNat m))] [] (sS L (tkN I m).1 J) 1 6 Q := by
    refine lp_dn ?_ ?_
    · exact rf_goW rf_mo_127 rf_T_127 60 [15] (And.intro (fun _ => hq a2) (fun hd => absurd ((nn_le a2.1 (by omega)).mpr (Nat.le_refl _)) hd))
    · intro m hm ih
      rw [← nt_succ m] at ih
      have hm' := hk m
      refine rf_goW rf_mo_127 rf_T_127 60 [15] (And.intro (fun hd => absurd ((nn_le a2.1 (by omega)).mp hd) (by omega)) (fun _ => And.intro ⟨by decide, by decide⟩ (c_runCues hm'.1 hm'.2.1 (fun t ht => And.intro ⟨by decide, by decide⟩ (c_runDrives (I := cs3 (tkN I m).1 t) (ht ▸ (tOk_1 hm').2.2) ?_)))))
      subst ht
      refine And.intro ⟨by decide, by decide⟩ (c_watchPieces (I := tk2 (tkN I m).1) (fun c hc => ((tOk_2 (tOk_1 hm')).1 c hc).1) (tOk_2 (tOk_1 hm')).2.2 (fun s hs => ?_))
      subst hs
      exact ih
  exact key 0 (by omega)
end LT
