/-! a tick of the drives -/
section LV
variable {l : Launch} {Q : rf_O → rf_S → Prop} {L : Nat} {I : Nat → Nat → Nat → Int32} {J : Nat → Nat → Nat → Int64} {σ : rf_S} {h : Nat}
def ruT (g : Nat → Int32) : Int32 := if g 3 = 0 then flT g else brT g
def ruS (g : Nat → Int32) : Int32 := if g 6 = 0 then ruT g - g 1 else 0
def ru1 (g : Nat → Int32) (w : Int32) : Nat → Int32 := uf (uf g 5 w) 1 (g 1 + w)
def ru2 (g : Nat → Int32) (w : Int32) : Nat → Int32 := if g 3 = 0 then ru1 g w else if w = 0 then (if g 2 = 0 then uf (ru1 g w) 3 0 else ru1 g w) else ru1 g w
def ru0 (r : Nat → Int32) : Nat → Int32 := if 4 ≤ r 2 then uf r 3 1 else r
/-- a drive's tick, behind its frame -/
def ru (r : Nat → Int32) : Nat → Int32 := ru2 (ru0 r) (ruS (ru0 r))
theorem rS_id : rS σ 2 h (σ.2.2.1 2 h) = σ := by
  show (_, _, ro _ _ _ _, _, _) = _
  rw [ro_id]
theorem c_run (hq : Q (.inl none) (rS σ 2 h (ru (σ.2.2.1 2 h)))) : rf_C l 116 [.inr (.inr (some (2, h)))] σ Q := by
  apply rf_C.ofW
  have k49 : ∀ (g : Nat → Int32) (w t : Int32), Q (.inl none) (rS σ 2 h (ru2 g w)) → rf_W l 116 49 [some (.inr (.inr (some (2, h)))), some (.inl t)] [.inl w, .inr (.inr (some (2, h)))] (rS σ 2 h g) 0 0 Q := by
    intro g w t hq
    have rd : ∀ f, (rS σ 2 h g).2.2.1 2 h f = g f := fun f => by rw [rS_I, ro_self]
    have e : rf_putI (rf_putI (rS σ 2 h g) 2 h 5 w) 2 h 1 ((rf_putI (rS σ 2 h g) 2 h 5 w).2.2.1 2 h 1 + (rf_putI (rS σ 2 h g) 2 h 5 w).2.2.1 2 h 5) = rS σ 2 h (ru1 g w) := by
      simp only [rS_put, rS_rS, rS_I, ro_self]
      rfl
    have go : rf_W l 116 65 [some (.inr (.inr (some (2, h)))), some (.inl t)] [] (rS σ 2 h (ru1 g w)) 0 0 Q := by
      have rd1 : ∀ f, (rS σ 2 h (ru1 g w)).2.2.1 2 h f = ru1 g w f := fun f => by rw [rS_I, ro_self]
      refine rf_goW rf_mo_116 rf_T_116 30 [] (And.intro (fun hc => ?_) (fun hc => And.intro (fun hd => ?_) (fun hd => And.intro (fun he => ?_) (fun he => And.intro (Or.inl rfl) ?_))))
      · have hc' : g 3 = 0 := (rd1 3).symm.trans hc
        rw [ru2, if_pos hc'] at hq
        exact hq
      · have hc' : ¬ g 3 = 0 := fun q => hc ((rd1 3).trans q)
        have hd' : ¬ w = 0 := fun q => hd ((rd1 5).trans q)
        rw [ru2, if_neg hc', if_neg hd'] at hq
        exact hq
      · have hc' : ¬ g 3 = 0 := fun q => hc ((rd1 3).trans q)
        have hd' : w = 0 := (rd1 5).symm.trans hd
        have he' : ¬ g 2 = 0 := fun q => he ((rd1 2).trans q)
        rw [ru2, if_neg hc', if_pos hd', if_neg he'] at hq
        exact hq
      · have hc' : ¬ g 3 = 0 := fun q => hc ((rd1 3).trans q)
        have hd' : w = 0 := (rd1 5).symm.trans hd
        have he' : g 2 = 0 := (rd1 2).symm.trans he
        rw [ru2, if_neg hc', if_pos hd', if_pos he'] at hq
        refine eqS (Q := Q) ?_ hq
        rw [rS_put, rS_rS, rS_I, ro_self]
    rw [← e] at go
    exact rf_goW rf_mo_116 rf_T_116 30 [65] go
  have k30 : ∀ (g : Nat → Int32), Q (.inl none) (rS σ 2 h (ru2 g (ruS g))) → rf_W l 116 30 [some (.inr (.inr (some (2, h)))), none] [.inl (ruT g)] (rS σ 2 h g) 0 0 Q := by
    intro g hq
    have rd : ∀ f, (rS σ 2 h g).2.2.1 2 h f = g f := fun f => by rw [rS_I, ro_self]
    refine rf_goW rf_mo_116 rf_T_116 30 [49] (And.intro (fun hc => ?_) (fun hc => ?_))
    · have hc' : g 6 = 0 := (rd 6).symm.trans hc
      rw [ruS, if_pos hc'] at hq
      have := k49 g _ (ruT g) hq
      rw [← rd 1] at this
      exact this
    · have hc' : ¬ g 6 = 0 := fun q => hc ((rd 6).trans q)
      rw [ruS, if_neg hc'] at hq
      exact k49 g _ (ruT g) hq
  have k12 : ∀ (g : Nat → Int32), Q (.inl none) (rS σ 2 h (ru2 g (ruS g))) → rf_W l 116 12 [some (.inr (.inr (some (2, h)))), none] [] (rS σ 2 h g) 0 0 Q := by
    intro g hq
    have rd : (rS σ 2 h g).2.2.1 2 h = g := by rw [rS_I, ro_self]
    have hk := k30 g hq
    refine rf_goW rf_mo_116 rf_T_116 30 [30] (And.intro (fun hc => And.intro ⟨by decide, by decide⟩ (c_following ?_)) (fun hc => And.intro ⟨by decide, by decide⟩ (c_braking ?_)))
    · have hc' : g 3 = 0 := by rw [← rd]; exact hc
      rw [ruT, if_pos hc'] at hk
      rw [rd]
      exact hk
    · have hc' : ¬ g 3 = 0 := by rw [← rd]; exact hc
      rw [ruT, if_neg hc'] at hk
      rw [rd]
      exact hk
  have hk := k12 (ru0 (σ.2.2.1 2 h)) hq
  refine rf_goW rf_mo_116 rf_T_116 30 [12] (And.intro ⟨by decide, by decide⟩ (c_isUninformed (fun hu => br_eq1 (And.intro (Or.inr rfl) ?_)) (fun hu => br_eq0 ?_)))
  · rw [ru0, if_pos hu] at hk
    rw [rS_put]
    exact hk
  · rw [ru0, if_neg hu, rS_id] at hk
    exact hk
/-- a tick of a drive, the masters' places being a -/
def rdR (a : Nat → Int32) (r : Nat → Int32) : Nat → Int32 := if r 0 = -1 then r else ru (liR r (a (nn (r 0))))
def dvI (I : Nat → Nat → Nat → Int32) (k : Nat) : Nat → Nat → Nat → Int32 := fun b i f => if b = 2 ∧ i < k then rdR (I 100 0) (I 2 i) f else I b i f
/-- how many drives went, of the first k -/
def dvC (a : Nat → Int32) (r : Nat → Nat → Int32) : Nat → Int32
  | 0 => 0
  | k + 1 => if r k 0 = -1 then dvC a r k else if rdR a (r k) 5 = 0 then dvC a r k else dvC a r k + 1
theorem dvI_b {b k : Nat} (hb : ¬ b = 2) : dvI I k b = I b := by
  funext y f
  simp [dvI, hb]
theorem dvI_k {k : Nat} : dvI I k 2 k = I 2 k := by
  funext f
  simp [dvI]
theorem dvI_0 : dvI I 0 = I := by
  funext b i f
  simp [dvI]
theorem dvI_s {k : Nat} : ro (dvI I k) 2 k (rdR (I 100 0) (I 2 k)) = dvI I (k + 1) := by
  funext b i f
  by_cases h1 : b = 2
  · subst h1
    by_cases h2 : i = k
    · subst h2
      have : i < i + 1 := by omega
      simp [ro, dvI]
    · by_cases h3 : i < k
      · have : i < k + 1 := by omega
        simp [ro, dvI, h2, h3, this]
      · have : ¬ i < k + 1 := by omega
        simp [ro, dvI, h2, h3, this]
  · simp [ro, dvI, h1]
theorem dvI_n {k : Nat} (hn : I 2 k 0 = -1) : dvI I (k + 1) = dvI I k := by
  rw [← dvI_s, rdR, if_pos hn, ← dvI_k (I := I) (k := k), ro_id]
theorem c_runDrives (hp : ∀ h, h < 12 → ¬ I 2 h 0 = -1 → ok (I 2 h 0) 6) (hq : Q (.inl (some (.inl (dvC (I 100 0) (I 2) 12)))) (sS L (dvI I 12) J)) : rf_C l 117 [.inr (.inr (some (7, 0)))] (sS L I J) Q := by
  apply rf_C.ofW
  refine rf_goW rf_mo_117 rf_T_117 14 [13] ?_
  have key : ∀ i, i ≤ 12 → rf_W l 117 13 [some (.inr (.inr (some (7, 0)))), some (.inl (dvC (I 100 0) (I 2) i)), some (.inr (.inr (some (103, 0)))), some (.inl (Int32.ofNat 12)), some (.inl (Int32.ofNat i)), none] [] (sS L (dvI I i) J) 0 0 Q := by
    refine lp_dn ?_ ?_
    · exact rf_goW rf_mo_117 rf_T_117 60 [13] (And.intro (fun _ => hq) (fun hc => absurd (Int32.le_refl _) hc))
    · intro i hi ih
      rw [← nt_succ i, dvC] at ih
      refine rf_goW rf_mo_117 rf_T_117 60 [13] (And.intro (fun hc => absurd ((nt_le (i := 12) (by omega) (by omega)).mp hc) (by omega)) (fun _ => And.intro (nt_ix (n := 12) hi (by decide)) ?_))
      rw [nt_cl (by omega)]
      have rk : dvI I i 2 i = I 2 i := dvI_k
      refine And.intro (fun hc => ?_) (fun hc => ?_)
      · have hc' : I 2 i 0 = -1 := by rw [← rk]; exact hc
        rw [if_pos hc', dvI_n hc'] at ih
        exact fgt ih (by repeat (first | exact True.intro | refine And.intro rfl ?_))
      · have hc' : ¬ I 2 i 0 = -1 := by rw [← rk]; exact hc
        have ea : dvI I i 100 0 = I 100 0 := by rw [dvI_b (by decide)]
        rw [if_neg hc'] at ih
        refine And.intro (show ok (dvI I i 2 i 0) 6 by rw [rk]; exact hp i hi hc') (And.intro ⟨by decide, by decide⟩ (c_listen (And.intro ⟨by decide, by decide⟩ (c_run ?_))))
        have es : rS (rS (sS L (dvI I i) J) 2 i (liR ((sS L (dvI I i) J).2.2.1 2 i) (dvI I i 100 0 (nn (dvI I i 2 i 0))))) 2 i (ru ((rS (sS L (dvI I i) J) 2 i (liR ((sS L (dvI I i) J).2.2.1 2 i) (dvI I i 100 0 (nn (dvI I i 2 i 0))))).2.2.1 2 i)) = sS L (dvI I (i + 1)) J := by
          rw [rS_rS, rS_I, ro_self]
          show sS L (ro (dvI I i) 2 i (ru (liR (dvI I i 2 i) _))) J = _
          rw [ea, rk, ← dvI_s, rdR, if_neg hc']
        have e5 : (sS L (dvI I (i + 1)) J).2.2.1 2 i 5 = rdR (I 100 0) (I 2 i) 5 := by
          show dvI I (i + 1) 2 i 5 = _
          rw [← dvI_s, ro_self]
        have go : rf_br .eq ((sS L (dvI I (i + 1)) J).2.2.1 2 i 5) 0 (rf_W l 117 13 [some (.inr (.inr (some (7, 0)))), some (.inl (dvC (I 100 0) (I 2) i)), some (.inr (.inr (some (103, 0)))), some (.inl (Int32.ofNat 12)), some (.inl (Int32.ofNat i + 1)), some (.inr (.inr (some (2, i))))] [] (sS L (dvI I (i + 1)) J) 0 0 Q) (rf_W l 117 13 [some (.inr (.inr (some (7, 0)))), some (.inl (dvC (I 100 0) (I 2) i + 1)), some (.inr (.inr (some (103, 0)))), some (.inl (Int32.ofNat 12)), some (.inl (Int32.ofNat i + 1)), some (.inr (.inr (some (2, i))))] [] (sS L (dvI I (i + 1)) J) 0 0 Q) := by
          rw [e5]
          refine And.intro (fun hz => ?_) (fun hz => ?_)
          · rw [if_pos hz] at ih
            exact fgt ih (by repeat (first | exact True.intro | refine And.intro rfl ?_))
          · rw [if_neg hz] at ih
            exact fgt ih (by repeat (first | exact True.intro | refine And.intro rfl ?_))
        rw [← es] at go
        exact go
  have k0 := key 0 (by omega)
  rw [dvC, dvI_0] at k0
  exact k0
end LV
