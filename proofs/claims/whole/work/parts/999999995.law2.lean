/-! the law: its loop -/
section LB
variable {l : Launch} {L : Nat} {Q : rf_O → rf_S → Prop}
theorem w_loop (hL : L ≤ 3072) (hQ : ∀ I J, Q (.inl (some (.inl 1))) (sS L I J)) : ∀ (k i : Nat) (I : Nat → Nat → Nat → Int32) (J : Nat → Nat → Nat → Int64) (ce sl : Nat), i ≤ L + 6 → L + 6 ≤ i + k → Rel I I → ce + 4 * k ≤ 646127 → sl + 24 * k ≤ 7157724 → rf_W l 165 23 [some (.inr (.inr (some (200, 0)))), some (.inr (.inr (some (7, 0)))), some (.inr (.inr (some (8, 0)))), some (.inr (.inr (some (102, 0)))), some (.inl (Int32.ofNat i)), none, none] [] (sS L I J) ce sl Q := by
  intro k
  induction k with
  | zero =>
    intro i I J ce sl h1 h2 _ _ _
    have hc : Int32.ofNat L - 6 < Int32.ofNat i := by
      rw [Int32.lt_iff_toInt_lt, t_sub (by rw [n_i (by omega)]; have : (6 : Int32).toInt = 6 := rfl; omega), n_i (by omega), n_i (by omega)]
      have : (6 : Int32).toInt = 6 := rfl
      omega
    exact rf_goW rf_mo_165 rf_T_165 20 [] (And.intro (fun _ => And.intro (Or.inr rfl) (hQ I J)) (fun q => absurd hc q))
  | succ k ih =>
    intro i I J ce sl h1 h2 hR hce hsl
    have z6 : (6 : Int32).toInt = 6 := rfl
    have lt : Int32.ofNat L - 6 < Int32.ofNat i ↔ L < i + 6 := by
      rw [Int32.lt_iff_toInt_lt, t_sub (by rw [n_i (by omega)]; omega), n_i (by omega), n_i (by omega)]
      omega
    refine rf_goW rf_mo_165 rf_T_165 30 [152, 236, 272, 344, 392, 484, 556, 592, 605, 661, 725, 781, 837, 893, 941, 989, 1053, 1116, 1153, 1190, 1227, 1276, 1313, 1362, 1375] (And.intro (fun _ => And.intro (Or.inr rfl) (hQ I J)) (fun q => ?_))
    have hi : i + 6 ≤ L := by
      have h6 : ¬ L < i + 6 := fun w => q (lt.mpr w)
      omega
    have nx : nxt l L i ce sl I Q := by
      intro I' J' ce' sl' r' k' h3 h4
      have n := ih (i + 6) I' J' ce' sl' (by omega) (by omega) r' (by omega) (by omega)
      have e6 : Int32.ofNat (i + 6) = Int32.ofNat i + 6 := (nt_add i 6).symm
      rw [e6] at n
      exact rf_goW rf_mo_165 rf_T_165 10 [23] n
    have i0 : 0 ≤ Int32.ofNat i ∧ (Int32.ofNat i).toNatClampNeg < L := nt_ix (by omega) (by omega)
    refine And.intro i0 ?_
    refine And.intro (fun _ => w_hang hR (by omega) (by omega) (by omega) (by omega) nx) (fun _ => ?_)
    refine And.intro (fun _ => w_unhang hR (by omega) (by omega) (by omega) (by omega) nx) (fun _ => ?_)
    refine And.intro (fun _ => w_box hR (by omega) (by omega) (by omega) (by omega) nx) (fun _ => ?_)
    refine And.intro (fun _ => w_station hR (by omega) (by omega) (by omega) (by omega) nx) (fun _ => ?_)
    refine And.intro (fun _ => w_move hR (by omega) (by omega) (by omega) (by omega) nx) (fun _ => ?_)
    refine And.intro (fun _ => w_after hR (by omega) (by omega) (by omega) (by omega) nx) (fun _ => ?_)
    refine And.intro (fun _ => w_clear hR (by omega) (by omega) (by omega) (by omega) nx) (fun _ => ?_)
    refine And.intro (fun _ => w_undo hR (by omega) (by omega) (by omega) (by omega) nx) (fun _ => ?_)
    refine And.intro (fun _ => w_arm hR (by omega) (by omega) (by omega) (by omega) nx) (fun _ => ?_)
    refine And.intro (fun _ => w_handle hR (by omega) (by omega) (by omega) (by omega) nx) (fun _ => ?_)
    refine And.intro (fun _ => w_go hR (by omega) (by omega) (by omega) (by omega) nx) (fun _ => ?_)
    refine And.intro (fun _ => w_halt hR (by omega) (by omega) (by omega) (by omega) nx) (fun _ => ?_)
    refine And.intro (fun _ => w_tick hR (by omega) (by omega) (by omega) (by omega) nx) (fun _ => ?_)
    refine And.intro (fun _ => w_cell hR (by omega) (by omega) (by omega) (by omega) nx) (fun _ => ?_)
    refine And.intro (fun _ => w_lose hR (by omega) (by omega) (by omega) (by omega) nx) (fun _ => ?_)
    refine And.intro (fun _ => w_stick hR (by omega) (by omega) (by omega) (by omega) nx) (fun _ => ?_)
    refine And.intro (fun _ => w_clearReason hR (by omega) (by omega) (by omega) (by omega) nx) (fun _ => ?_)
    refine And.intro (fun _ => w_hoist hR (by omega) (by omega) (by omega) (by omega) nx) (fun _ => ?_)
    refine And.intro (fun _ => w_piece hR (by omega) (by omega) (by omega) (by omega) nx) (fun _ => ?_)
    refine And.intro (fun _ => w_cue hR (by omega) (by omega) (by omega) (by omega) nx) (fun _ => ?_)
    refine And.intro (fun _ => w_moveOf hR (by omega) (by omega) (by omega) (by omega) nx) (fun _ => ?_)
    refine And.intro (fun _ => w_meets hR (by omega) (by omega) (by omega) (by omega) nx) (fun _ => ?_)
    refine And.intro (fun _ => w_rehearse hR (by omega) (by omega) (by omega) (by omega) nx) (fun _ => ?_)
    refine And.intro (fun _ => w_version hR (by omega) (by omega) (by omega) (by omega) nx) (fun _ => ?_)
    exact nx I J ce sl hR rfl (by omega) (by omega)
end LB
