/-! the class: which pieces could meet -/
section LMT
variable {l : Launch} {Q : rf_O → rf_S → Prop} {L : Nat} {I : Nat → Nat → Nat → Int32} {J : Nat → Nat → Nat → Int64} {σ : rf_S}
noncomputable def fsR (P : Nat → Nat → Nat → Int32) (b : Nat → Nat → Int32) (n : Nat → Nat) (x : Nat → Int32) (a : Int32) (t : (Nat → Int32) × (Nat → Int32) × (Nat → Int32)) : Nat → (Nat → Int32) × (Nat → Int32) × (Nat → Int32)
  | 0 => t
  | c + 1 => cif (Int32.ofNat c = a ∨ bsy (x c)) (fmR (P c) (b c) (Int32.ofNat c) (fsR P b n x a t c) (n c)) (fsR P b n x a t c)
def fs0 (I : Nat → Nat → Nat → Int32) : (Nat → Int32) × (Nat → Int32) × (Nat → Int32) := (slR (fun _ => -1) (I 100 7) 6, I 100 8, slR (I 100 0) (I 100 9) 6)
noncomputable def fsI (I : Nat → Nat → Nat → Int32) (a : Int32) : (Nat → Int32) × (Nat → Int32) × (Nat → Int32) := fsR (kP I) (kB I) (kN I) (stX I) a (fs0 I) 8
theorem c_findMovers {a : Int32} (hc : ∀ c, c < 8 → plOk I (40 + c)) (hq : Q (.inl none) (sS L (m3 I (fsI I a)) J)) : rf_C l 77 [.inr (.inr (some (7, 0))), .inl a] (sS L I J) Q := by
  apply rf_C.ofW
  have k2 : ∀ c, c ≤ 8 → ∀ r, r = fsR (kP I) (kB I) (kN I) (stX I) a (fs0 I) c → rf_W l 77 38 [some (.inr (.inr (some (7, 0)))), some (.inl a), some (.inl (Int32.ofNat c))] [] (sS L (m3 I r) J) 0 0 Q := by
    refine lp_dn ?_ ?_
    · intro r hr
      subst hr
      exact rf_goW rf_mo_77 rf_T_77 60 [38] (And.intro (fun _ => hq) (fun hd => absurd (Int32.le_refl _) hd))
    · intro c hc8 ih r hr
      rw [← nt_succ c] at ih
      have yes : Int32.ofNat c = a ∨ bsy (stX I c) → rf_W l 77 61 [some (.inr (.inr (some (7, 0)))), some (.inl a), some (.inl (Int32.ofNat c))] [] (sS L (m3 I r) J) 0 0 Q := by
        intro g
        refine rf_goW rf_mo_77 rf_T_77 60 [38] (And.intro ⟨by decide, by decide⟩ (c_findMovesOf hc8 (hc c hc8) (ih _ ?_)))
        rw [fsR, ← hr, cif_t g]
      refine rf_goW rf_mo_77 rf_T_77 60 [38, 61] (And.intro (fun hd => absurd ((nt_le (i := 8) (by omega) (by omega)).mp hd) (by omega)) (fun _ => And.intro (fun e => yes (Or.inl e)) (fun e => And.intro (nt_ix (n := 8) hc8 (by decide)) ?_)))
      rw [nt_cl (by omega)]
      have eb : busy (m3 I r) (40 + c) ↔ bsy (stX I c) := by
        unfold busy
        rw [m3_b (by decide)]
        exact Iff.rfl
      refine And.intro ⟨by decide, by decide⟩ (c_isBusy (fun hb => br_eq1 (yes (Or.inr (eb.mp hb)))) (fun hb => br_eq0 (ih r ?_)))
      rw [fsR, ← hr, cif_f (fun q => q.elim e fun w => hb (eb.mpr w))]
  have k1 : ∀ k, k ≤ 6 → rf_W l 77 2 [some (.inr (.inr (some (7, 0)))), some (.inl a), some (.inl (Int32.ofNat k))] [] (sS L (m3 I (slR (fun _ => -1) (I 100 7) k, I 100 8, slR (I 100 0) (I 100 9) k)) J) 0 0 Q := by
    refine lp_dn ?_ ?_
    · exact rf_goW rf_mo_77 rf_T_77 60 [2, 38] (And.intro (fun _ => k2 0 (by omega) _ rfl) (fun hd => absurd (Int32.le_refl _) hd))
    · intro k hk ih
      rw [← nt_succ k] at ih
      refine rf_goW rf_mo_77 rf_T_77 60 [2, 38] (And.intro (fun hd => absurd ((nt_le (i := 6) (by omega) (by omega)).mp hd) (by omega)) (fun _ => And.intro (nt_ix (n := 6) hk (by decide)) (And.intro (nt_ix (n := 6) hk (by decide)) (And.intro (nt_ix (n := 6) hk (by decide)) ?_))))
      rw [nt_cl (by omega)]
      have e7 : uf (slR (fun _ => -1) (I 100 7) k) k (-1) = slR (fun _ => -1) (I 100 7) (k + 1) := slR_s (g := fun _ => -1)
      have es : rf_u3 (rf_u3 (m3 I (slR (fun _ => -1) (I 100 7) k, I 100 8, slR (I 100 0) (I 100 9) k)) 100 7 k (-1)) 100 9 k (rf_u3 (m3 I (slR (fun _ => -1) (I 100 7) k, I 100 8, slR (I 100 0) (I 100 9) k)) 100 7 k (-1) 100 0 k) = m3 I (slR (fun _ => -1) (I 100 7) (k + 1), I 100 8, slR (I 100 0) (I 100 9) (k + 1)) := by
        rw [m3_u7, m3_o (by decide), m3_u9]
        show m3 I (uf (slR (fun _ => -1) (I 100 7) k) k (-1), I 100 8, uf (slR (I 100 0) (I 100 9) k) k (I 100 0 k)) = _
        rw [e7, slR_s]
      rw [← es] at ih
      exact ih
  have k0 := k1 0 (by omega)
  rw [slR_0, slR_0, m3_id] at k0
  exact rf_goW rf_mo_77 rf_T_77 3 [2] k0
/-- from where the leader lets the move j go; so many steps of the chain -/
noncomputable def lgF (P : Nat → Nat → Int32) (b a : Nat → Int32) (w here : Int32) : Nat → Nat → Int32
  | 0, _ => here
  | k + 1, j => cif (P 3 j = -1) here (cif (rchd (P 1 (nn (P 3 j))) (b (nn (P 3 j))) (a (nn (P 0 (nn (P 3 j))))) (P 4 j)) here (cif (P 0 (nn (P 3 j)) = w) (P 4 j) (lgF P b a w here k (nn (P 3 j)))))
noncomputable def lgV (I : Nat → Nat → Nat → Int32) (w f : Int32) : Int32 := cif (I 100 7 (nn f) = -1) (I 100 0 (nn w)) (lgF (kP I (nn (I 100 7 (nn f)))) (kB I (nn (I 100 7 (nn f)))) (I 100 0) w (I 100 0 (nn w)) 4 (nn (I 100 8 (nn f))))
/-- the rows of movers name moves -/
def mvOk (I : Nat → Nat → Nat → Int32) : Prop := ∀ p, p < 6 → ¬ I 100 7 p = -1 → ok (I 100 7 p) 8 ∧ ok (I 100 8 p) (kN I (nn (I 100 7 p)))
theorem c_letsGoAt {w f : Int32} (hw : ok w 6) (hf : ok f 6) (hc : ∀ c, c < 8 → plOk I (40 + c)) (hm : mvOk I) (hq : Q (.inl (some (.inl (lgV I w f)))) (sS L I J)) : rf_C l 78 [.inr (.inr (some (7, 0))), .inl w, .inl f] (sS L I J) Q := by
  apply rf_C.ofW
  refine rf_goW rf_mo_78 rf_T_78 60 [52] (And.intro hw (And.intro hf (And.intro (fun e => ?_) (fun e => ?_))))
  · obtain ⟨m1, m2⟩ := hm (nn f) hf.2 e
    rw [lgV, cif_f (show ¬ I 100 7 (nn f) = -1 from e)] at hq
    have hC : plOk I (40 + nn (I 100 7 (nn f))) := hc _ m1.2
    have h5 : nn (I 1 (40 + nn (I 100 7 (nn f))) 1) < 5 := hC.1.2
    have m3' : nn (I 100 8 (nn f)) < nn (I 1 (40 + nn (I 100 7 (nn f))) 1) := m2.2
    have m4 : ok (I 100 8 (nn f)) 4 := ⟨m2.1, by show nn _ < 4; omega⟩
    have key : ∀ C, plOk I (40 + C) → ∀ i, i ≤ 4 → ∀ j, j < nn (I 1 (40 + C) 1) → Q (.inl (some (.inl (lgF (kP I C) (kB I C) (I 100 0) w (I 100 0 (nn w)) (4 - i) j)))) (sS L I J) → rf_W l 78 52 [some (.inr (.inr (some (7, 0)))), some (.inl w), some (.inl f), some (.inl (I 100 0 (nn w))), some (.inr (.inr (some (1, 40 + C)))), some (.inr (.inr (some (5, 4 * (40 + C) + j)))), some (.inl (Int32.ofNat i)), none] [] (sS L I J) 0 0 Q := by
      intro C hC
      have h5 : nn (I 1 (40 + C) 1) < 5 := hC.1.2
      refine lp_dn ?_ ?_
      · intro j hj hq
        exact rf_goW rf_mo_78 rf_T_78 60 [52] (And.intro (fun _ => hq) (fun hd => absurd (Int32.le_refl _) hd))
      · intro i hi ih j hj hq
        rw [← nt_succ i] at ih
        rw [show 4 - i = 4 - (i + 1) + 1 by omega, lgF] at hq
        refine rf_goW rf_mo_78 rf_T_78 60 [52] (And.intro (fun hd => absurd ((nt_le (i := 4) (by omega) (by omega)).mp hd) (by omega)) (fun _ => And.intro (fun (g : kP I C 3 j = -1) => ?_) (fun (g : ¬ kP I C 3 j = -1) => ?_)))
        · rw [cif_t g] at hq
          exact hq
        · rw [cif_f g] at hq
          have o1 := (hC.2 j hj).2.2 g
          have o2 : nn (I 5 (4 * (40 + C) + j) 3) < j := o1.2
          have o3 := (hC.2 (nn (I 5 (4 * (40 + C) + j) 3)) (by omega)).1
          have o4 : ok (I 5 (4 * (40 + C) + j) 3) 4 := ⟨o1.1, by show nn (I 5 (4 * (40 + C) + j) 3) < 4; omega⟩
          refine And.intro o4 (And.intro o3 (And.intro ⟨by decide, by decide⟩ (c_reached (i := 0) (by decide) o3 (fun (r : rchd (kP I C 1 (nn (kP I C 3 j))) (kB I C (nn (kP I C 3 j))) (I 100 0 (nn (kP I C 0 (nn (kP I C 3 j))))) (kP I C 4 j)) => br_eq1 ?_) (fun (r : ¬ rchd (kP I C 1 (nn (kP I C 3 j))) (kB I C (nn (kP I C 3 j))) (I 100 0 (nn (kP I C 0 (nn (kP I C 3 j))))) (kP I C 4 j)) => br_eq0 (And.intro (fun (x : ¬ kP I C 0 (nn (kP I C 3 j)) = w) => ?_) (fun (x : kP I C 0 (nn (kP I C 3 j)) = w) => ?_))))))
          · rw [cif_t r] at hq
            exact hq
          · rw [cif_f r, cif_f x] at hq
            exact fgt (ih _ (by show nn (I 5 (4 * (40 + C) + j) 3) < _; omega) hq) (by repeat (first | exact True.intro | refine And.intro rfl ?_))
          · rw [cif_f r, cif_t x] at hq
            exact hq
    exact And.intro hf (And.intro m1 (And.intro hf (And.intro m4 (key _ hC 0 (by omega) _ m3' hq))))
  · rw [lgV, cif_t (show I 100 7 (nn f) = -1 from e)] at hq
    exact hq
end LMT
