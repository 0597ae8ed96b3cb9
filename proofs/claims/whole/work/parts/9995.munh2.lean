/-! the model: unhang -/
section MM
variable {l : Launch} {Q : rf_O → rf_S → Prop} {L : Nat} {I : Nat → Nat → Nat → Int32} {J : Nat → Nat → Nat → Int64} {σ : rf_S}
theorem mz_th {p x : Int32} {c : Nat} : mz (thI I x) p c ↔ mz I p c := by
  unfold mz mHas mN mP
  rw [thI_b (I := I) (x := x) (b := 100) (by decide)]
theorem th_th {x y : Int32} : rf_u3 (thI I x) 8 0 0 y = thI I y := u3_u3
def unM (I : Nat → Nat → Nat → Int32) (p : Int32) : Prop := ¬ I 101 3 (nn p) = 0 ∧ ¬ 0 < I 100 23 (nn p) ∧ ∀ c, c < 8 → ¬ mz I p c
def uhR (r : Nat → Int32) (p : Int32) (k : Nat) : Nat → Int32 := fun i => if i < k ∧ r i = p then -1 else r i
theorem uhR_0 {r : Nat → Int32} {p : Int32} : uhR r p 0 = r := by
  funext i
  rw [uhR, if_neg fun q => absurd q.1 (by omega)]
theorem uhR_k {r : Nat → Int32} {p : Int32} {k : Nat} : uhR r p k k = r k := by rw [uhR, if_neg fun q => absurd q.1 (by omega)]
theorem uhR_y {r : Nat → Int32} {p : Int32} {k : Nat} (h : r k = p) : uf (uhR r p k) k (-1) = uhR r p (k + 1) := by
  funext i
  by_cases e : i = k
  · subst e
    rw [uf, if_pos rfl, uhR, if_pos ⟨by omega, h⟩]
  · rw [uf, if_neg e]
    by_cases q : i < k ∧ r i = p
    · rw [uhR, if_pos q, uhR, if_pos ⟨by omega, q.2⟩]
    · rw [uhR, if_neg q, uhR, if_neg fun w => q ⟨by omega, w.2⟩]
theorem uhR_n {r : Nat → Int32} {p : Int32} {k : Nat} (h : ¬ r k = p) : uhR r p (k + 1) = uhR r p k := by
  funext i
  by_cases q : i < k ∧ r i = p
  · rw [uhR, if_pos ⟨by omega, q.2⟩, uhR, if_pos q]
  · refine (if_neg fun w => q ⟨?_, w.2⟩).trans (if_neg q).symm
    have : ¬ i = k := fun e => h (e ▸ w.2)
    omega
def unI (I : Nat → Nat → Nat → Int32) (p : Nat) : Nat → Nat → Nat → Int32 := rf_u3 (rf_u3 (thI I 0) 101 3 p 0) 100 25 p 0
theorem unI_10 {p : Nat} : unI I p 100 10 = I 100 10 := by
  funext f
  simp [unI, thI, rf_u3]
theorem d_unhang {p : Int32} (hn : ∀ c, c < 8 → ok (I 100 29 c) 5) (h0 : ¬ ok p 6 → Q (.inl none) (sS L (thI I 1) J)) (h2 : ok p 6 → ¬ unM I p → Q (.inl none) (sS L (thI I 2) J))
    (hq : ok p 6 → unM I p → Q (.inl none) (sS L (ro (unI I (nn p)) 100 10 (uhR (I 100 10) p 12)) J)) : rf_C l 43 [.inr (.inr (some (8, 0))), .inl p] (sS L I J) Q := by
  apply rf_C.ofW
  have out : ∀ x, ¬ x ≤ 0 → Q (.inl none) (sS L (thI I x) J) → rf_W l 43 56 [some (.inr (.inr (some (8, 0)))), some (.inl p), none] [] (sS L (thI I x) J) 0 0 Q := fun x hx q => rf_goW rf_mo_43 rf_T_43 30 [] (And.intro (fun (e : thI I x 8 0 0 ≤ 0) => absurd (thI_0 (I := I) (x := x) ▸ e) hx) (fun _ => q))
  refine rf_goW rf_mo_43 rf_T_43 30 [18] (And.intro ⟨by decide, by decide⟩ (d_isNumber (n := 6) (by decide) (fun a1 => br_eq1 ?_) (fun a1 => br_eq0 ?_)))
  · have bad : ¬ unM I p → rf_W l 43 51 [some (.inr (.inr (some (8, 0)))), some (.inl p), none] [] (sS L (thI I 0) J) 0 0 Q := by
      intro q
      have o := out 2 (by decide) (h2 a1 q)
      rw [← th_th (x := 0)] at o
      exact rf_goW rf_mo_43 rf_T_43 30 [56] o
    have key : unM I p → ∀ k, k ≤ 12 → rf_W l 43 80 [some (.inr (.inr (some (8, 0)))), some (.inl p), some (.inl (Int32.ofNat k))] [] (sS L (ro (unI I (nn p)) 100 10 (uhR (I 100 10) p k)) J) 0 0 Q := by
      intro u
      refine lp_dn ?_ ?_
      · exact rf_goW rf_mo_43 rf_T_43 30 [80] (And.intro (fun _ => hq a1 u) (fun hd => absurd (Int32.le_refl _) hd))
      · intro k hk ih
        have i12 := nt_ix (n := 12) hk (by decide)
        rw [← nt_succ k] at ih
        have e10 : ro (unI I (nn p)) 100 10 (uhR (I 100 10) p k) 100 10 k = I 100 10 k := by rw [ro_self, uhR_k]
        refine rf_goW rf_mo_43 rf_T_43 60 [80] (And.intro (fun hd => absurd ((nt_le (i := 12) (by omega) (by omega)).mp hd) (by omega)) (fun _ => And.intro i12 ?_))
        rw [nt_cl (by omega)]
        refine And.intro (fun e => ?_) (fun e => And.intro i12 ?_)
        · rw [uhR_n (fun q => e (e10.trans q))] at ih
          exact ih
        · rw [nt_cl (by omega)]
          have es : rf_u3 (ro (unI I (nn p)) 100 10 (uhR (I 100 10) p k)) 100 10 k (-1) = ro (unI I (nn p)) 100 10 (uhR (I 100 10) p (k + 1)) := by
            rw [u3_ro, ro_self, ro_ro, uhR_y (e10.symm.trans e)]
          rw [← es] at ih
          exact ih
    have good : unM I p → rf_W l 43 56 [some (.inr (.inr (some (8, 0)))), some (.inl p), none] [] (sS L (thI I 0) J) 0 0 Q := by
      intro u
      have k0 := key u 0 (by omega)
      rw [uhR_0, ← unI_10 (I := I) (p := nn p), ro_id] at k0
      exact rf_goW rf_mo_43 rf_T_43 30 [80] (And.intro (fun _ => And.intro (Or.inl rfl) (And.intro a1 (And.intro a1 k0))) (fun (e : ¬ thI I 0 8 0 0 ≤ 0) => absurd (show thI I 0 8 0 0 ≤ 0 by rw [thI_0]; decide) e))
    have g : rf_W l 43 18 [some (.inr (.inr (some (8, 0)))), some (.inl p), none] [] (sS L (thI I 0) J) 0 0 Q := by
      refine rf_goW rf_mo_43 rf_T_43 60 [51, 56] (And.intro (fun e => absurd (thI_0 (I := I) (x := 0)) e) (fun _ => And.intro a1 (And.intro (fun (b : I 101 3 (nn p) = 0) => bad fun q => q.1 b) (fun (b : ¬ I 101 3 (nn p) = 0) => And.intro a1 (And.intro (fun (c : 0 < I 100 23 (nn p)) => bad fun q => q.2.1 c) (fun (c : ¬ 0 < I 100 23 (nn p)) => And.intro ⟨by decide, by decide⟩ (d_mover (I := thI I 0) hn (fun i hi hz _ => And.intro (fun hd => absurd hd ?_) (fun _ => bad fun q => q.2.2 i hi (mz_th.mp hz))) (fun hz => And.intro (fun _ => good ⟨b, c, fun i hi w => hz i hi (mz_th.mpr w)⟩) (fun hd => absurd (by decide) hd)))))))))
      exact i_nlt.mpr ((nt_le (i := 0) (by omega) (by omega)).mpr (by omega))
    exact g
  · have g : rf_W l 43 18 [some (.inr (.inr (some (8, 0)))), some (.inl p), none] [] (sS L (thI I 1) J) 0 0 Q := rf_goW rf_mo_43 rf_T_43 60 [56] (And.intro (fun _ => out 1 (by decide) (h0 a1)) (fun (e : thI I 1 8 0 0 = 0) => absurd (thI_0.symm.trans e) (by decide)))
    exact g
end MM
