/-! the model: why a piece stands -/
section MI
variable {l : Launch} {Q : rf_O → rf_S → Prop} {L : Nat} {I : Nat → Nat → Nat → Int32} {J : Nat → Nat → Nat → Int64} {σ : rf_S}
/-- whether it was so of one of the first i -/
noncomputable def fl (A : Nat → Prop) (i : Nat) : Int32 := cif (∃ j, j < i ∧ A j) 1 0
theorem fl_y {A : Nat → Prop} {i : Nat} (h : A i) : fl A (i + 1) = 1 := cif_t ⟨i, by omega, h⟩
theorem fl_n {A : Nat → Prop} {i : Nat} (h : ¬ A i) : fl A (i + 1) = fl A i := by
  by_cases q : ∃ j, j < i ∧ A j
  · obtain ⟨j, h1, h2⟩ := q
    rw [fl, cif_t ⟨j, by omega, h2⟩, fl, cif_t ⟨j, h1, h2⟩]
  · have q' : ¬ ∃ j, j < i + 1 ∧ A j := by
      rintro ⟨j, h1, h2⟩
      by_cases e : j = i
      · exact h (e ▸ h2)
      · exact q ⟨j, by omega, h2⟩
    rw [fl, cif_f q', fl, cif_f q]
theorem fl_k {A : Nat → Prop} {i : Nat} (h : ¬ fl A i = 0) : fl A (i + 1) = 1 := by
  by_cases q : ∃ j, j < i ∧ A j
  · obtain ⟨j, h1, h2⟩ := q
    exact cif_t ⟨j, by omega, h2⟩
  · exact absurd (cif_f q) h
theorem fl_0 {A : Nat → Prop} : fl A 0 = 0 := cif_f fun ⟨_, h, _⟩ => absurd h (by omega)
theorem fl_iff {A : Nat → Prop} {i : Nat} : ¬ fl A i = 0 ↔ ∃ j, j < i ∧ A j := by
  by_cases q : ∃ j, j < i ∧ A j
  · exact ⟨fun _ => q, fun _ e => absurd ((cif_t q).symm.trans e) (by decide)⟩
  · exact ⟨fun h => absurd (cif_f q) h, fun r => absurd r q⟩
def rA1 (I : Nat → Nat → Nat → Int32) (p : Int32) (j : Nat) : Prop := I 100 10 j = p ∧ (¬ I 101 1 j = 0 ∨ 4 ≤ I 100 13 j)
def rA2 (I : Nat → Nat → Nat → Int32) (p a : Int32) (j : Nat) : Prop := I 100 10 j = p ∧ (20 < I 100 11 j - a ∨ 20 < a - I 100 11 j)
def rA4 (I : Nat → Nat → Nat → Int32) (p : Int32) (j : Nat) : Prop := I 100 10 j = p ∧ wrg (lodV (I 100 16 j) (I 100 10 j) (I 100 26)) (I 100 26 (nn p))
noncomputable def rsM (I : Nat → Nat → Nat → Int32) (p a : Int32) : Int32 := cif (∃ j, j < 12 ∧ rA1 I p j) 1 (cif (∃ j, j < 12 ∧ rA2 I p a j) 2 (cif (15 < hghG (I 100 10) (I 100 11) p 12 - lowG (I 100 10) (I 100 11) p 12) 3 (cif (∃ j, j < 12 ∧ rA4 I p j) 4 0)))
theorem d_reasonAt {p a : Int32} (hp : ok p 6) (hd : ∀ h, h < 12 → (I 100 16 h = -1 ∨ 0 ≤ I 100 16 h) ∧ (I 100 10 h = -1 ∨ ok (I 100 10 h) 6)) (hq : Q (.inl (some (.inl (rsM I p a)))) (sS L I J)) : rf_C l 134 [.inr (.inr (some (8, 0))), .inl p, .inl a] (sS L I J) Q := by
  apply rf_C.ofW
  refine rf_goW rf_mo_134 rf_T_134 20 [11] ?_
  have key : ∀ i, i ≤ 12 → rf_W l 134 11 [some (.inr (.inr (some (8, 0)))), some (.inl p), some (.inl a), some (.inl (fl (rA1 I p) i)), some (.inl (fl (rA2 I p a) i)), some (.inl (fl (rA4 I p) i)), some (.inl (Int32.ofNat i))] [] (sS L I J) 0 0 Q := by
    refine lp_dn ?_ ?_
    · unfold rsM at hq
      refine rf_goW rf_mo_134 rf_T_134 60 [11] (And.intro (fun _ => And.intro (fun e => And.intro (fun f => And.intro ⟨by decide, by decide⟩ (d_apart (And.intro (fun g => And.intro (fun k => ?_) (fun k => ?_)) (fun g => ?_)))) (fun f => ?_)) (fun e => ?_)) (fun hd => absurd (Int32.le_refl _) hd))
      · rw [cif_f (fun q => fl_iff.mpr q e), cif_f (fun q => fl_iff.mpr q f), cif_f (i_nlt.mpr g), cif_f (fun q => fl_iff.mpr q k)] at hq
        exact hq
      · rw [cif_f (fun q => fl_iff.mpr q e), cif_f (fun q => fl_iff.mpr q f), cif_f (i_nlt.mpr g), cif_t (fl_iff.mp k)] at hq
        exact hq
      · rw [cif_f (fun q => fl_iff.mpr q e), cif_f (fun q => fl_iff.mpr q f), cif_t (i_nle.mp g)] at hq
        exact hq
      · rw [cif_f (fun q => fl_iff.mpr q e), cif_t (fl_iff.mp f)] at hq
        exact hq
      · rw [cif_t (fl_iff.mp e)] at hq
        exact hq
    · intro i hi ih
      have i12 := nt_ix (n := 12) hi (by decide)
      rw [← nt_succ i] at ih
      refine rf_goW rf_mo_134 rf_T_134 60 [11, 32] (And.intro (fun hd => absurd ((nt_le (i := 12) (by omega) (by omega)).mp hd) (by omega)) (fun _ => And.intro i12 ?_))
      rw [nt_cl (by omega)]
      refine And.intro (fun (e : I 100 10 i = p) => ?_) (fun (e : ¬ I 100 10 i = p) => ?_)
      · have g161 : ∀ z, z = fl (rA4 I p) (i + 1) → rf_W l 134 161 [some (.inr (.inr (some (8, 0)))), some (.inl p), some (.inl a), some (.inl (fl (rA1 I p) (i + 1))), some (.inl (fl (rA2 I p a) (i + 1))), some (.inl (fl (rA4 I p) i)), some (.inl (Int32.ofNat i))] [.inl z] (sS L I J) 0 0 Q := by
          rintro _ rfl
          exact rf_goW rf_mo_134 rf_T_134 20 [11] ih
        have g101 : ∀ z, z = fl (rA2 I p a) (i + 1) → rf_W l 134 101 [some (.inr (.inr (some (8, 0)))), some (.inl p), some (.inl a), some (.inl (fl (rA1 I p) (i + 1))), some (.inl (fl (rA2 I p a) i)), some (.inl (fl (rA4 I p) i)), some (.inl (Int32.ofNat i))] [.inl z] (sS L I J) 0 0 Q := by
          rintro _ rfl
          refine rf_goW rf_mo_134 rf_T_134 60 [161] (And.intro (fun f => g161 _ (fl_k f).symm) (fun f => And.intro ⟨by decide, by decide⟩ (d_load hi (hd i hi).1 (hd i hi).2 (And.intro hp (And.intro (fun g => g161 _ (fl_y ⟨e, Or.inl g⟩).symm) (fun g => And.intro ⟨by decide, by decide⟩ (d_load hi (hd i hi).1 (hd i hi).2 (And.intro hp (And.intro (fun k => g161 _ ?_) (fun k => g161 _ (fl_y ⟨e, Or.inr (i_nle.mp k)⟩).symm))))))))))
          rw [fl_n (fun q => q.2.elim g (i_nlt.mpr k))]
          exact f.symm
        have g62 : ∀ z, z = fl (rA1 I p) (i + 1) → rf_W l 134 62 [some (.inr (.inr (some (8, 0)))), some (.inl p), some (.inl a), some (.inl (fl (rA1 I p) i)), some (.inl (fl (rA2 I p a) i)), some (.inl (fl (rA4 I p) i)), some (.inl (Int32.ofNat i))] [.inl z] (sS L I J) 0 0 Q := by
          rintro _ rfl
          refine rf_goW rf_mo_134 rf_T_134 60 [101] (And.intro (fun f => g101 _ (fl_k f).symm) (fun f => And.intro i12 ?_))
          rw [nt_cl (by omega)]
          refine And.intro (fun g => g101 _ (fl_y ⟨e, Or.inl g⟩).symm) (fun g => And.intro i12 ?_)
          rw [nt_cl (by omega)]
          refine And.intro (fun k => g101 _ ?_) (fun k => g101 _ (fl_y ⟨e, Or.inr (i_nle.mp k)⟩).symm)
          rw [fl_n (fun q => q.2.elim g (i_nlt.mpr k))]
          exact f.symm
        have g32 : rf_W l 134 32 [some (.inr (.inr (some (8, 0)))), some (.inl p), some (.inl a), some (.inl (fl (rA1 I p) i)), some (.inl (fl (rA2 I p a) i)), some (.inl (fl (rA4 I p) i)), some (.inl (Int32.ofNat i))] [] (sS L I J) 0 0 Q := by
          refine rf_goW rf_mo_134 rf_T_134 60 [62] (And.intro (fun f => g62 _ (fl_k f).symm) (fun f => And.intro i12 ?_))
          rw [nt_cl (by omega)]
          refine And.intro (fun g => g62 _ (fl_y ⟨e, Or.inl g⟩).symm) (fun g => And.intro i12 ?_)
          rw [nt_cl (by omega)]
          refine And.intro (fun k => g62 _ ?_) (fun k => g62 _ (fl_y ⟨e, Or.inr (i_nlt.mp k)⟩).symm)
          rw [fl_n (fun q => q.2.elim (fun r => r g) (fun r => i_nlt.mpr r k))]
          exact f.symm
        exact g32
      · rw [fl_n (A := rA1 I p) (fun q => e q.1), fl_n (A := rA2 I p a) (fun q => e q.1), fl_n (A := rA4 I p) (fun q => e q.1)] at ih
        exact ih
  have k0 := key 0 (by omega)
  rw [fl_0, fl_0, fl_0] at k0
  exact k0
end MI
