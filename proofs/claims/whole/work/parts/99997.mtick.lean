/-! the model: a tick, its three loops -/
section MW
variable {l : Launch} {Q : rf_O → rf_S → Prop} {L : Nat} {I : Nat → Nat → Nat → Int32} {J : Nat → Nat → Nat → Int64} {σ : rf_S}
def mH (I : Nat → Nat → Nat → Int32) (c : Nat) : Int32 := I 101 4 (nn (I 100 28 c))
noncomputable def mcR (I : Nat → Nat → Nat → Int32) (c : Nat) : (Nat → Int32) × (Nat → Int32) × (Nat → Int32) := rcsR (mP I) (mB I) (mH I) (mN I) (I 100 27, I 100 23, I 100 24) c
noncomputable def mk1 (I : Nat → Nat → Nat → Int32) : Nat → Nat → Nat → Int32 := ts3 I (mcR I 8)
theorem ts3_mP {t : (Nat → Int32) × (Nat → Int32) × (Nat → Int32)} {c : Nat} : mP (ts3 I t) c = mP I c := by
  funext f m
  show ts3 I t 100 (30 + f) _ = _
  rw [ts3_o (by omega) (by omega) (by omega)]
  rfl
theorem ts3_mB {t : (Nat → Int32) × (Nat → Int32) × (Nat → Int32)} {c : Nat} : mB (ts3 I t) c = mB I c := by
  funext m
  show ts3 I t 100 35 _ = _
  rw [ts3_o (by decide) (by decide) (by decide)]
  rfl
theorem ts3_mN {t : (Nat → Int32) × (Nat → Int32) × (Nat → Int32)} {c : Nat} : mN (ts3 I t) c = mN I c := by
  unfold mN
  rw [ts3_o (by decide) (by decide) (by decide)]
theorem m_cues {n x3 : Int32} (hc : ∀ c, c < 8 → mpOk I c ∧ ok (I 100 28 c) 3) (ht : ∀ c, c < 8 → (mcR I c).1 c = 2 → tcOk (mP I c) (mB I c) (mH I c) (mN I c) (mcR I c).2)
    (hq : rf_W l 135 69 [some (.inr (.inr (some (8, 0)))), some (.inl n), none, some (.inl x3), none] [] (sS L (mk1 I) J) 0 0 Q) : rf_W l 135 39 [some (.inr (.inr (some (8, 0)))), some (.inl n), none, some (.inl x3), some (.inl 0)] [] (sS L I J) 0 0 Q := by
  have key : ∀ c, c ≤ 8 → ∀ t, t = mcR I c → rf_W l 135 39 [some (.inr (.inr (some (8, 0)))), some (.inl n), none, some (.inl x3), some (.inl (Int32.ofNat c))] [] (sS L (ts3 I t) J) 0 0 Q := by
    refine lp_dn ?_ ?_
    · rintro _ rfl
      exact rf_goW rf_mo_135 rf_T_135 30 [39, 69] (And.intro (fun _ => fgt hq (by repeat (first | exact True.intro | refine And.intro rfl ?_))) (fun hd => absurd (Int32.le_refl _) hd))
    · intro c hi ih t ht'
      have i8 := nt_ix (n := 8) hi (by decide)
      rw [← nt_succ c] at ih
      have e27 : ts3 I t 100 27 = t.1 := ts3_x
      refine rf_goW rf_mo_135 rf_T_135 30 [39] (And.intro (fun hd => absurd ((nt_le (i := 8) (by omega) (by omega)).mp hd) (by omega)) (fun _ => And.intro i8 ?_))
      rw [nt_cl (by omega)]
      refine And.intro (fun (e : ¬ ts3 I t 100 27 c = 2) => ?_) (fun (e : ts3 I t 100 27 c = 2) => ?_)
      · rw [e27] at e
        refine ih t ?_
        rw [mcR, rcsR]
        rw [mcR] at ht'
        rw [← ht', cif_f e]
      · rw [e27] at e
        have e28 : ts3 I t 100 28 = I 100 28 := ts3_o (by decide) (by decide) (by decide)
        have e29 : ts3 I t 100 29 = I 100 29 := ts3_o (by decide) (by decide) (by decide)
        have e101 : ts3 I t 101 = I 101 := ts3_b (by decide)
        refine And.intro ⟨by decide, by decide⟩ (d_tickCue (I := ts3 I t) hi ?_ ?_ ?_ ?_)
        · unfold mpOk
          rw [ts3_mP, ts3_mN, e29]
          exact (hc c hi).1
        · rw [e28]; exact (hc c hi).2
        · rw [ts3_mP, ts3_mB, ts3_mN, e28, e101, ts3_a, ts3_v]
          have := ht c hi (ht' ▸ e)
          rw [← ht'] at this
          exact this
        · intro r hr
          rw [ts3_mP, ts3_mB, ts3_mN, e28, e101, e27, ts3_a, ts3_v] at hr
          rw [ts3_2, e27]
          refine ih _ ?_
          rw [mcR, rcsR]
          rw [mcR] at ht'
          rw [← ht', cif_t e, hr]
          rfl
  have k0 := key 0 (by omega) _ rfl
  rw [mcR, rcsR, ts3_id] at k0
  exact k0
/-- the first k drives, a tick on -/
def mdA (I : Nat → Nat → Nat → Int32) (k : Nat) : Nat → Nat → Nat → Int32 := fun b i f => if f < k ∧ ¬ mdF b i = 9 then rdR (I 100 23) (mD I f) (mdF b i) else I b i f
theorem mdA_o {k b i f : Nat} (hk : mdF b i = 9) : mdA I k b i f = I b i f := if_neg fun q => q.2 hk
theorem mdA_r {k b i : Nat} (hk : mdF b i = 9) : mdA I k b i = I b i := funext fun _ => mdA_o hk
theorem mdA_k {k b i f : Nat} (hf : k ≤ f) : mdA I k b i f = I b i f := if_neg fun q => absurd q.1 (by omega)
theorem mdA_0 : mdA I 0 = I := by
  funext b i f
  exact mdA_k (by omega)
theorem mdA_D {k h : Nat} (hk : k ≤ h) : mD (mdA I k) h = mD I h := by
  funext f
  unfold mD
  simp only [mdA_k hk]
theorem mdA_s {k : Nat} : mdS (mdA I k) k (rdR (I 100 23) (mD I k)) = mdA I (k + 1) := by
  funext b i f
  by_cases h9 : mdF b i = 9
  · rw [mdS_o h9, mdA_o h9, mdA_o h9]
  · by_cases hf : f = k
    · subst hf
      rw [mdS_x h9, mdA, if_pos ⟨by omega, h9⟩]
    · rw [mdS, if_neg fun q => hf q.1]
      by_cases hk : f < k
      · rw [mdA, if_pos ⟨hk, h9⟩, mdA, if_pos ⟨by omega, h9⟩]
      · rw [mdA_k (by omega), mdA_k (by omega)]
theorem mdA_n {k : Nat} (hn : I 100 10 k = -1) : mdA I (k + 1) = mdA I k := by
  rw [← mdA_s, rdR, if_pos (show mD I k 0 = -1 from hn), ← mdA_D (I := I) (Nat.le_refl k), mdS_id]
/-- what is asked of the drives -/
def mdOk (I : Nat → Nat → Nat → Int32) (h : Nat) : Prop := (I 100 10 h = -1 ∨ ok (I 100 10 h) 6) ∧ (I 101 1 h = 0 ∨ I 101 1 h = 1) ∧ pl (I 100 11 h) ∧ (-14 ≤ I 100 14 h ∧ I 100 14 h ≤ 14)
theorem m_drives {n x3 : Int32} (hd : ∀ h, h < 12 → mdOk I h)
    (hq : rf_W l 135 124 [some (.inr (.inr (some (8, 0)))), some (.inl n), some (.inl (dvC (I 100 23) (mD I) 12)), some (.inl x3), none] [] (sS L (mdA I 12) J) 0 0 Q) : rf_W l 135 74 [some (.inr (.inr (some (8, 0)))), some (.inl n), some (.inl 0), some (.inl x3), some (.inl 0)] [] (sS L I J) 0 0 Q := by
  have key : ∀ h, h ≤ 12 → rf_W l 135 74 [some (.inr (.inr (some (8, 0)))), some (.inl n), some (.inl (dvC (I 100 23) (mD I) h)), some (.inl x3), some (.inl (Int32.ofNat h))] [] (sS L (mdA I h) J) 0 0 Q := by
    refine lp_dn ?_ ?_
    · exact rf_goW rf_mo_135 rf_T_135 30 [74, 124] (And.intro (fun _ => fgt hq (by repeat (first | exact True.intro | refine And.intro rfl ?_))) (fun hd => absurd (Int32.le_refl _) hd))
    · intro h hi ih
      have i12 := nt_ix (n := 12) hi (by decide)
      obtain ⟨d1, d2, d3, d4⟩ := hd h hi
      rw [← nt_succ h, dvC] at ih
      have e10 : mdA I h 100 10 h = I 100 10 h := mdA_o (by decide)
      refine rf_goW rf_mo_135 rf_T_135 30 [74, 94] (And.intro (fun hd => absurd ((nt_le (i := 12) (by omega) (by omega)).mp hd) (by omega)) (fun _ => And.intro i12 ?_))
      rw [nt_cl (by omega)]
      refine And.intro (fun (e : 0 ≤ mdA I h 100 10 h) => ?_) (fun (e : ¬ 0 ≤ mdA I h 100 10 h) => ?_)
      · rw [e10] at e
        have e' : ¬ I 100 10 h = -1 := fun q => by rw [q] at e; exact absurd e (by decide)
        rw [if_neg (show ¬ mD I h 0 = -1 from e')] at ih
        have g : rf_W l 135 94 [some (.inr (.inr (some (8, 0)))), some (.inl n), some (.inl (dvC (I 100 23) (mD I) h)), some (.inl x3), some (.inl (Int32.ofNat h))] [] (sS L (mdA I h) J) 0 0 Q := by
          refine rf_goW rf_mo_135 rf_T_135 30 [74] (And.intro ⟨by decide, by decide⟩ (d_tickDrive (I := mdA I h) hi ?_ ?_ ?_ ?_ ?_))
          · rw [e10]; exact d1.elim (fun q => absurd q e') id
          · rw [mdA_k (Nat.le_refl h)]; exact d2
          · rw [mdA_k (Nat.le_refl h)]; exact d3
          · rw [mdA_k (Nat.le_refl h)]; exact d4
          rw [mdA_D (Nat.le_refl h), e10, mdA_r (i := 23) (by decide)]
          have es : mdS (mdA I h) h (ru (liR (mD I h) (I 100 23 (nn (I 100 10 h))))) = mdA I (h + 1) := by
            rw [← mdA_s, rdR, if_neg (show ¬ mD I h 0 = -1 from e')]
            rfl
          rw [es]
          have e14 : mdA I (h + 1) 100 14 h = rdR (I 100 23) (mD I h) 5 := by rw [← mdA_s, mdS_x (by decide)]; rfl
          refine And.intro i12 ?_
          rw [nt_cl (by omega)]
          refine And.intro (fun (f : mdA I (h + 1) 100 14 h = 0) => ?_) (fun (f : ¬ mdA I (h + 1) 100 14 h = 0) => ?_)
          · rw [e14] at f
            rw [if_pos f] at ih
            have : dvC (I 100 23) (mD I) h + 0 = dvC (I 100 23) (mD I) h := Int32.add_zero _
            rw [← this] at ih
            exact ih
          · rw [e14] at f
            rw [if_neg f] at ih
            exact ih
        exact g
      · rw [e10] at e
        have e' : I 100 10 h = -1 := d1.elim id fun q => absurd q.1 e
        rw [if_pos (show mD I h 0 = -1 from e'), mdA_n e'] at ih
        exact ih
  have k0 := key 0 (by omega)
  rw [dvC, mdA_0] at k0
  exact k0
end MW
