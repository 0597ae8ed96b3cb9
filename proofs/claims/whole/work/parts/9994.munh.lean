/-! the model: ones, meetsAny -/
section MLL
variable {l : Launch} {Q : rf_O → rf_S → Prop} {L : Nat} {I : Nat → Nat → Nat → Int32} {J : Nat → Nat → Nat → Int64} {σ : rf_S}
def onF (x : Int32) : Nat → Int32
  | 0 => 0
  | k + 1 => onF x k + ((x >>> (Int32.ofNat k &&& 31)) &&& 1)
theorem d_ones {x : Int32} (hq : Q (.inl (some (.inl (onF x 32)))) σ) : rf_C l 28 [.inl x] σ Q := by
  apply rf_C.ofW
  refine rf_goW rf_mo_28 rf_T_28 10 [4] ?_
  have key : ∀ k, k ≤ 32 → rf_W l 28 4 [some (.inl x), some (.inl (onF x k)), some (.inl (Int32.ofNat k))] [] σ 0 0 Q := by
    refine lp_dn ?_ ?_
    · exact rf_goW rf_mo_28 rf_T_28 20 [4] (And.intro (fun _ => hq) (fun hd => absurd (Int32.le_refl _) hd))
    · intro k hk ih
      rw [← nt_succ k, onF] at ih
      exact rf_goW rf_mo_28 rf_T_28 30 [4] (And.intro (fun hd => absurd ((nt_le (i := 32) (by omega) (by omega)).mp hd) (by omega)) (fun _ => ih))
  exact key 0 (by omega)
def mAn (I : Nat → Nat → Nat → Int32) (p : Int32) (j : Nat) : Prop := ¬ Int32.ofNat j = p ∧ ¬ I 101 3 j = 0 ∧ bsd I (nn p) j ∧ hov I (nn p) j (I 100 23 (nn p)) (I 100 23 j)
theorem d_meetsAny {p : Int32} (hp : ok p 6) (hq : Q (.inl (some (.inl (fl (mAn I p) 6)))) (sS L I J)) : rf_C l 32 [.inr (.inr (some (8, 0))), .inl p] (sS L I J) Q := by
  apply rf_C.ofW
  refine rf_goW rf_mo_32 rf_T_32 10 [4] ?_
  have f01 : ∀ i, fl (mAn I p) i = 0 ∨ fl (mAn I p) i = 1 := fun i => by
    by_cases q : ∃ j, j < i ∧ mAn I p j
    · exact Or.inr (cif_t q)
    · exact Or.inl (cif_f q)
  have key : ∀ i, i ≤ 6 → rf_W l 32 4 [some (.inr (.inr (some (8, 0)))), some (.inl p), some (.inl (fl (mAn I p) i)), some (.inl (Int32.ofNat i))] [] (sS L I J) 0 0 Q := by
    refine lp_dn ?_ ?_
    · exact rf_goW rf_mo_32 rf_T_32 60 [4] (And.intro (fun _ => And.intro (f01 6) hq) (fun hd => absurd (Int32.le_refl _) hd))
    · intro i hi ih
      have i6 := nt_ix (n := 6) hi (by decide)
      rw [← nt_succ i] at ih
      have g54 : ∀ z, z = fl (mAn I p) (i + 1) → rf_W l 32 54 [some (.inr (.inr (some (8, 0)))), some (.inl p), some (.inl (fl (mAn I p) i)), some (.inl (Int32.ofNat i))] [.inl z] (sS L I J) 0 0 Q := by
        rintro _ rfl
        exact rf_goW rf_mo_32 rf_T_32 20 [4] ih
      have no : fl (mAn I p) i = 0 → ¬ mAn I p i → rf_W l 32 54 [some (.inr (.inr (some (8, 0)))), some (.inl p), some (.inl (fl (mAn I p) i)), some (.inl (Int32.ofNat i))] [.inl 0] (sS L I J) 0 0 Q := fun f q => g54 _ (by rw [fl_n q]; exact f.symm)
      refine rf_goW rf_mo_32 rf_T_32 60 [4, 54] (And.intro (fun hd => absurd ((nt_le (i := 6) (by omega) (by omega)).mp hd) (by omega)) (fun _ => And.intro (fun f => g54 _ (fl_k f).symm) (fun f => And.intro (fun e => no f fun q => q.1 e) (fun e => And.intro i6 ?_))))
      rw [nt_cl (by omega)]
      have kk : (bsd I (nn p) (nn (Int32.ofNat i)) ∧ hov I (nn p) (nn (Int32.ofNat i)) (I 100 23 (nn p)) (I 100 23 (nn (Int32.ofNat i)))) ↔ (bsd I (nn p) i ∧ hov I (nn p) i (I 100 23 (nn p)) (I 100 23 i)) := by rw [nn_nat (by omega)]
      exact And.intro (fun (g : I 101 3 i = 0) => no f fun q => q.2.1 g) (fun (g : ¬ I 101 3 i = 0) => And.intro hp (And.intro i6 (And.intro ⟨by decide, by decide⟩ (d_meetAt hp i6 (fun k => br_eq1 (g54 _ (fl_y ⟨e, g, kk.mp k⟩).symm)) (fun k => br_eq0 (no f fun q => k (kk.mpr q.2.2)))))))
  have k0 := key 0 (by omega)
  rw [fl_0] at k0
  exact k0
end MLL
