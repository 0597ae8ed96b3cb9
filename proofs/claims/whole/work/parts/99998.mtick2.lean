/-! the model: a tick, whole -/
section MX
variable {l : Launch} {Q : rf_O → rf_S → Prop} {L : Nat} {I : Nat → Nat → Nat → Int32} {J : Nat → Nat → Nat → Int64} {σ : rf_S}
/-- the model's rows of reasons, states, speeds anew -/
def wsM (I : Nat → Nat → Nat → Int32) (s : (Nat → Int32) × (Nat → Int32) × (Nat → Int32)) : Nat → Nat → Nat → Int32 := hm2 (ro I 100 25 s.1) s.2
theorem wsM_id : wsM I (I 100 25, I 100 27, I 100 24) = I := by
  show hm2 (ro I 100 25 (I 100 25)) (I 100 27, I 100 24) = I
  rw [ro_id, hm2_id]
theorem wsM_b {b : Nat} {s : (Nat → Int32) × (Nat → Int32) × (Nat → Int32)} (h : ¬ b = 100) : wsM I s b = I b := by rw [wsM, hm2_b h, ro_b h]
theorem wsM_q {s : (Nat → Int32) × (Nat → Int32) × (Nat → Int32)} : wsM I s 100 25 = s.1 := by rw [wsM, hm2_o (by decide) (by decide), ro_self]
theorem wsM_x {s : (Nat → Int32) × (Nat → Int32) × (Nat → Int32)} : wsM I s 100 27 = s.2.1 := hm2_x
theorem wsM_v {s : (Nat → Int32) × (Nat → Int32) × (Nat → Int32)} : wsM I s 100 24 = s.2.2 := hm2_v
theorem wsM_o {k : Nat} {s : (Nat → Int32) × (Nat → Int32) × (Nat → Int32)} (h1 : ¬ k = 24) (h2 : ¬ k = 25) (h3 : ¬ k = 27) : wsM I s 100 k = I 100 k := by rw [wsM, hm2_o h3 h1, ro_ne (by omega)]
theorem wsM_uq {p : Nat} {y : Int32} {s : (Nat → Int32) × (Nat → Int32) × (Nat → Int32)} : rf_u3 (wsM I s) 100 25 p y = wsM I (uf s.1 p y, s.2) := by
  rw [u3_ro, wsM_q]
  funext b i f
  by_cases h1 : b = 100
  · subst h1
    by_cases h2 : i = 25
    · subst h2; simp [wsM, hm2, ro]
    · simp [wsM, hm2, ro, h2]
  · simp [wsM, hm2, ro, h1]
theorem wsM_ux {x v : Nat → Int32} {s : (Nat → Int32) × (Nat → Int32) × (Nat → Int32)} : ro (ro (wsM I s) 100 27 x) 100 24 v = wsM I (s.1, x, v) := by
  unfold wsM
  exact hm2_2 (s' := (x, v))
noncomputable def mkR (I : Nat → Nat → Nat → Int32) (p : Nat) : Int32 := rsM I (Int32.ofNat p) (I 100 23 p)
def mM (I : Nat → Nat → Nat → Int32) (p c : Nat) : Prop := mHas I c (Int32.ofNat p)
noncomputable def mwR (I : Nat → Nat → Nat → Int32) (p : Nat) : (Nat → Int32) × (Nat → Int32) × (Nat → Int32) := wpR (I 101 3) (mkR I) (mM I) (mQ I) (mN I) (I 100 25, I 100 27, I 100 24) p
theorem rsM_congr {I' : Nat → Nat → Nat → Int32} {p a : Int32} (h : ∀ k, (k = 10 ∨ k = 11 ∨ k = 13 ∨ k = 16 ∨ k = 26) → I' 100 k = I 100 k) (h1 : I' 101 = I 101) : rsM I' p a = rsM I p a := by
  unfold rsM rA1 rA2 rA4
  rw [h 10 (by omega), h 11 (by omega), h 13 (by omega), h 16 (by omega), h 26 (by omega), h1]
theorem rsM_v {p a : Int32} : rsM I p a = 0 ∨ ¬ rsM I p a ≤ 0 := by
  unfold rsM cif
  split
  · exact Or.inr (by decide)
  · split
    · exact Or.inr (by decide)
    · split
      · exact Or.inr (by decide)
      · split
        · exact Or.inr (by decide)
        · exact Or.inl rfl
theorem rsM_4 {p a : Int32} : 0 ≤ rsM I p a ∧ rsM I p a ≤ 4 := by
  unfold rsM cif
  split
  · decide
  · split
    · decide
    · split
      · decide
      · split
        · decide
        · decide
theorem wpR_q {g rs : Nat → Int32} {hm : Nat → Nat → Prop} {P : Nat → Nat → Int32} {n : Nat → Nat} {s : (Nat → Int32) × (Nat → Int32) × (Nat → Int32)} {p : Nat} : ∀ m, m ≤ p → (wpR g rs hm P n s m).1 p = s.1 p
  | 0, _ => rfl
  | m + 1, hm' => by
    have ih := wpR_q (g := g) (rs := rs) (hm := hm) (P := P) (n := n) (s := s) (p := p) m (by omega)
    rw [wpR]
    by_cases h : ¬ g m = 0 ∧ (wpR g rs hm P n s m).1 m = 0
    · rw [cif_t h]
      show uf _ _ _ p = _
      rw [uf, if_neg (by omega)]
      exact ih
    · rw [cif_f h]
      exact ih
theorem m_pieces {n x2 x3 : Int32} (hc : ∀ c, c < 8 → mpOk I c) (hd : ∀ h, h < 12 → (I 100 16 h = -1 ∨ 0 ≤ I 100 16 h) ∧ (I 100 10 h = -1 ∨ ok (I 100 10 h) 6)) (hr : ∀ p, p < 6 → 0 ≤ I 100 25 p)
    (hq : rf_W l 135 212 [some (.inr (.inr (some (8, 0)))), some (.inl n), some (.inl x2), some (.inl x3), none] [] (sS L (wsM I (mwR I 6)) J) 0 0 Q) : rf_W l 135 127 [some (.inr (.inr (some (8, 0)))), some (.inl n), some (.inl x2), some (.inl x3), some (.inl 0)] [] (sS L I J) 0 0 Q := by
  have key : ∀ p, p ≤ 6 → ∀ s, s = mwR I p → rf_W l 135 127 [some (.inr (.inr (some (8, 0)))), some (.inl n), some (.inl x2), some (.inl x3), some (.inl (Int32.ofNat p))] [] (sS L (wsM I s) J) 0 0 Q := by
    refine lp_dn ?_ ?_
    · rintro _ rfl
      exact rf_goW rf_mo_135 rf_T_135 30 [127, 212] (And.intro (fun _ => fgt hq (by repeat (first | exact True.intro | refine And.intro rfl ?_))) (fun hd => absurd (Int32.le_refl _) hd))
    · intro p hi ih s hs
      have i6 := nt_ix (n := 6) hi (by decide)
      rw [← nt_succ p] at ih
      have sq : s.1 p = I 100 25 p := by rw [hs, mwR, wpR_q p (Nat.le_refl p)]
      have e101 : ∀ s, wsM I s 101 = I 101 := fun s => wsM_b (by decide)
      have no : ¬ (¬ I 101 3 p = 0 ∧ s.1 p = 0) → rf_W l 135 127 [some (.inr (.inr (some (8, 0)))), some (.inl n), some (.inl x2), some (.inl x3), some (.inl (Int32.ofNat p + 1))] [] (sS L (wsM I s) J) 0 0 Q := by
        intro q
        refine ih s ?_
        rw [mwR, wpR]
        rw [mwR] at hs
        rw [← hs, cif_f q]
      refine rf_goW rf_mo_135 rf_T_135 30 [127, 157] (And.intro (fun hd => absurd ((nt_le (i := 6) (by omega) (by omega)).mp hd) (by omega)) (fun _ => And.intro i6 ?_))
      rw [nt_cl (by omega)]
      refine And.intro (fun (e : wsM I s 101 3 p = 0) => no fun q => q.1 (by rw [e101] at e; exact e)) (fun (e : ¬ wsM I s 101 3 p = 0) => And.intro i6 ?_)
      rw [nt_cl (by omega)]
      rw [e101] at e
      refine And.intro (fun (f : wsM I s 100 25 p ≤ 0) => ?_) (fun (f : ¬ wsM I s 100 25 p ≤ 0) => no fun q => f ?_)
      · rw [wsM_q] at f
        have s0 : s.1 p = 0 := Int32.le_antisymm f (by rw [sq]; exact hr p hi)
        have go : ∀ x, x = mkR I p → rf_W l 135 177 [some (.inr (.inr (some (8, 0)))), some (.inl n), some (.inl x2), some (.inl x3), some (.inl (Int32.ofNat p))] [] (sS L (wsM I (uf s.1 p x, s.2)) J) 0 0 Q := by
          intro x hx
          have nx : ∀ t, t = wp2 x (mM I p) (mQ I) (mN I) s → rf_W l 135 127 [some (.inr (.inr (some (8, 0)))), some (.inl n), some (.inl x2), some (.inl x3), some (.inl (Int32.ofNat p + 1))] [] (sS L (wsM I (uf s.1 p x, t)) J) 0 0 Q := by
            intro t ht
            refine ih _ ?_
            rw [mwR, wpR]
            rw [mwR] at hs
            rw [← hs, cif_t ⟨e, s0⟩, ht, hx]
          have e25 : wsM I (uf s.1 p x, s.2) 100 25 p = x := by rw [wsM_q]; simp [uf]
          have e29 : wsM I (uf s.1 p x, s.2) 100 29 = I 100 29 := wsM_o (by decide) (by decide) (by decide)
          have eP : ∀ c, mP (wsM I (uf s.1 p x, s.2)) c 0 = mP I c 0 := fun c => by
            funext m
            show wsM I (uf s.1 p x, s.2) 100 30 _ = _
            rw [wsM_o (by decide) (by decide) (by decide)]
            rfl
          have eN : ∀ c, mN (wsM I (uf s.1 p x, s.2)) c = mN I c := fun c => by unfold mN; rw [e29]
          have ez : ∀ c, mz (wsM I (uf s.1 p x, s.2)) (Int32.ofNat p) c ↔ bsy (s.2.1 c) ∧ mM I p c := fun c => by
            unfold mz mM mHas
            rw [eP, eN, wsM_x]
          have v := rsM_v (I := I) (p := Int32.ofNat p) (a := I 100 23 p)
          rw [show rsM I (Int32.ofNat p) (I 100 23 p) = x from hx.symm] at v
          refine rf_goW rf_mo_135 rf_T_135 30 [127] (And.intro i6 ?_)
          rw [nt_cl (by omega)]
          refine And.intro (fun (k : wsM I (uf s.1 p x, s.2) 100 25 p ≤ 0) => ?_) (fun (k : ¬ wsM I (uf s.1 p x, s.2) 100 25 p ≤ 0) => ?_)
          · rw [e25] at k
            refine nx s.2 ?_
            rw [wp2, cif_t (v.elim id fun q => absurd k q)]
          · rw [e25] at k
            have x0 : ¬ x = 0 := fun q => k (by rw [q]; decide)
            refine And.intro ⟨by decide, by decide⟩ (d_mover (I := wsM I (uf s.1 p x, s.2)) (fun c hc8 => by rw [e29]; exact (hc c hc8).1) (fun c hc8 hb hj => ?_) (fun hb => ?_))
            · refine And.intro (fun hd => absurd hd (i_nlt.mpr ((nt_le (i := 0) (by omega) (by omega)).mpr (by omega)))) (fun _ => And.intro ⟨by decide, by decide⟩ (d_mover (I := wsM I (uf s.1 p x, s.2)) (fun c hc8 => by rw [e29]; exact (hc c hc8).1) (fun c hc8 hb hj => ?_) (fun hb' => absurd hb (hb' c hc8))))
              have hf : fnd (fun c => bsy (s.2.1 c) ∧ mM I p c) 8 = some c := fnd_some ((ez c).mp hb) (fun j hjc q => hj j hjc ((ez j).mpr q)) hc8
              refine And.intro ⟨by decide, by decide⟩ (d_stop (I := wsM I (uf s.1 p x, s.2)) hc8 (by rw [e29]; exact (hc c hc8).1) (fun j hj => by rw [eP]; rw [eN] at hj; exact ((hc c hc8).2 j hj).1) ?_)
              rw [wsM_ux, wsM_x, wsM_v, eP, eN]
              refine nx _ ?_
              rw [wp2, cif_f x0, hf]
              rfl
            · have hf : fnd (fun c => bsy (s.2.1 c) ∧ mM I p c) 8 = none := fnd_none fun c hc8 q => hb c hc8 ((ez c).mpr q)
              refine And.intro (fun _ => nx s.2 ?_) (fun q => absurd (by decide) q)
              rw [wp2, cif_f x0, hf]
        have g : rf_W l 135 157 [some (.inr (.inr (some (8, 0)))), some (.inl n), some (.inl x2), some (.inl x3), some (.inl (Int32.ofNat p))] [] (sS L (wsM I s) J) 0 0 Q := by
          refine rf_goW rf_mo_135 rf_T_135 30 [177] (And.intro i6 (And.intro ⟨by decide, by decide⟩ (d_reasonAt (I := wsM I s) i6 ?_ (And.intro i6 ?_))))
          · rw [wsM_o (by decide) (by decide) (by decide), wsM_o (by decide) (by decide) (by decide)]
            exact hd
          · rw [nt_cl (by omega)]
            have ex : rsM (wsM I s) (Int32.ofNat p) (wsM I s 100 23 p) = mkR I p := by
              rw [wsM_o (by decide) (by decide) (by decide)]
              exact rsM_congr (fun k hk => wsM_o (by omega) (by omega) (by omega)) (e101 s)
            have k := go _ ex
            rw [← wsM_uq] at k
            exact k
        exact g
      · rw [wsM_q, q.2]; decide
  have k0 := key 0 (by omega) _ rfl
  rw [mwR, wpR, wsM_id] at k0
  exact k0
/-- what is asked for a tick -/
def tmOk (I : Nat → Nat → Nat → Int32) : Prop := (∀ c, c < 8 → mpOk I c ∧ ok (I 100 28 c) 3) ∧ (∀ c, c < 8 → (mcR I c).1 c = 2 → tcOk (mP I c) (mB I c) (mH I c) (mN I c) (mcR I c).2) ∧ (∀ h, h < 12 → mdOk I h ∧ (I 100 16 h = -1 ∨ 0 ≤ I 100 16 h)) ∧ ∀ p, p < 6 → 0 ≤ I 100 25 p
noncomputable def mk2 (I : Nat → Nat → Nat → Int32) : Nat → Nat → Nat → Int32 := mdA (mk1 I) 12
noncomputable def mk3 (I : Nat → Nat → Nat → Int32) : Nat → Nat → Nat → Int32 := wsM (mk2 I) (mwR (mk2 I) 6)
noncomputable def mkC (I : Nat → Nat → Nat → Int32) : Int32 := dvC (mk1 I 100 23) (mD (mk1 I)) 12
noncomputable def mkN (I : Nat → Nat → Nat → Int32) : Nat → (Nat → Nat → Nat → Int32) × Int32
  | 0 => (I, 0)
  | n + 1 => (mk3 (mkN I n).1, mkC (mkN I n).1)
theorem mk1_b {b : Nat} (h : ¬ b = 100) : mk1 I b = I b := ts3_b h
theorem mk1_o {k : Nat} (h1 : ¬ k = 23) (h2 : ¬ k = 24) (h3 : ¬ k = 27) : mk1 I 100 k = I 100 k := ts3_o h1 h2 h3
theorem mk2_r {b i : Nat} (h : mdF b i = 9) : mk2 I b i = mk1 I b i := mdA_r h
theorem mk3_8 : mk3 I 8 = I 8 := by
  funext i f
  show wsM (mk2 I) _ 8 i f = _
  rw [wsM_b (by decide)]
  show mdA (mk1 I) 12 8 i f = _
  rw [mdA_o (by rw [mdF, if_neg (by decide), if_neg (by omega)]), mk1_b (by decide)]
theorem mkN_8 : ∀ n, (mkN I n).1 8 = I 8
  | 0 => rfl
  | n + 1 => mk3_8.trans (mkN_8 n)
theorem d_tick {n : Int32} (hI : ok n 201 → ∀ m, m < nn n → tmOk (mkN (thI I 0) m).1) (h1 : ¬ (0 ≤ n ∧ n ≤ 200) → Q (.inl (some (.inl 0))) (sS L (thI I 1) J)) (hq : ok n 201 → Q (.inl (some (.inl (mkN (thI I 0) (nn n)).2))) (sS L (mkN (thI I 0) (nn n)).1 J)) : rf_C l 135 [.inr (.inr (some (8, 0))), .inl n] (sS L I J) Q := by
  apply rf_C.ofW
  have bad : ¬ (0 ≤ n ∧ n ≤ 200) → rf_W l 135 20 [some (.inr (.inr (some (8, 0)))), some (.inl n), none, none, none] [] (sS L (thI I 1) J) 0 0 Q := by
    intro a1
    refine rf_goW rf_mo_135 rf_T_135 30 [] (And.intro (fun _ => h1 a1) (fun _ => And.intro (fun _ => h1 a1) (fun (e : thI I 1 8 0 0 = 0) => absurd (thI_0.symm.trans e) (by decide))))
  have good : 0 ≤ n ∧ n ≤ 200 → rf_W l 135 20 [some (.inr (.inr (some (8, 0)))), some (.inl n), none, none, none] [] (sS L (thI I 0) J) 0 0 Q := by
    intro a1
    have a2 : ok n 201 := (wi_ok (n := 200) (by decide)).mp a1
    have hn2 : nn n < 201 := a2.2
    have key : ∀ m, m ≤ nn n → rf_W l 135 24 [some (.inr (.inr (some (8, 0)))), some (.inl n), some (.inl (mkN (thI I 0) m).2), some (.inl (Int32.ofNat m)), none] [] (sS L (mkN (thI I 0) m).1 J) 0 0 Q := by
      refine lp_dn ?_ ?_
      · exact rf_goW rf_mo_135 rf_T_135 30 [24] (And.intro (fun _ => hq a2) (fun hd => absurd ((nn_le a2.1 (by omega)).mpr (Nat.le_refl _)) hd))
      · intro m hm ih
        rw [← nt_succ m] at ih
        obtain ⟨o1, o2, o3, o4⟩ := hI a2 m hm
        obtain ⟨K, hK⟩ : ∃ K, K = (mkN (thI I 0) m).1 := ⟨_, rfl⟩
        have t0 : K 8 0 0 = 0 := by rw [hK, mkN_8, thI_0]
        rw [mkN, ← hK] at ih
        rw [← hK] at o1 o2 o3 o4 ⊢
        have e10 : mk2 K 100 10 = K 100 10 := by rw [mk2_r (by decide), mk1_o (by decide) (by decide) (by decide)]
        have e16 : mk2 K 100 16 = K 100 16 := by rw [mk2_r (by decide), mk1_o (by decide) (by decide) (by decide)]
        have e25 : mk2 K 100 25 = K 100 25 := by rw [mk2_r (by decide), mk1_o (by decide) (by decide) (by decide)]
        have e29 : mk2 K 100 29 = K 100 29 := by rw [mk2_r (by decide), mk1_o (by decide) (by decide) (by decide)]
        have eP : ∀ c, mP (mk2 K) c = mP K c := fun c => by
          funext f j
          show mk2 K 100 (30 + f) _ = _
          rw [mk2_r (by rw [mdF, if_pos rfl, if_neg (by omega), if_neg (by omega), if_neg (by omega), if_neg (by omega), if_neg (by omega)]), mk1_o (by omega) (by omega) (by omega)]
          rfl
        have g127 := m_pieces (l := l) (Q := Q) (L := L) (J := J) (I := mk2 K) (n := n) (x2 := mkC K) (x3 := Int32.ofNat m) (fun c hc => by
            unfold mpOk mN
            rw [eP, e29]
            exact (o1 c hc).1) (by rw [e10, e16]; exact fun h hh => ⟨(o3 h hh).2, (o3 h hh).1.1⟩) (by rw [e25]; exact o4) (rf_goW rf_mo_135 rf_T_135 30 [24] (fgt ih (by repeat (first | exact True.intro | refine And.intro rfl ?_))))
        have f10 : mk1 K 100 10 = K 100 10 := mk1_o (by decide) (by decide) (by decide)
        have f11 : mk1 K 100 11 = K 100 11 := mk1_o (by decide) (by decide) (by decide)
        have f14 : mk1 K 100 14 = K 100 14 := mk1_o (by decide) (by decide) (by decide)
        have f101 : mk1 K 101 = K 101 := mk1_b (by decide)
        have g74 := m_drives (l := l) (Q := Q) (L := L) (J := J) (I := mk1 K) (n := n) (x3 := Int32.ofNat m) (fun h hh => by
            unfold mdOk
            rw [f10, f11, f14, f101]
            exact (o3 h hh).1) (rf_goW rf_mo_135 rf_T_135 30 [127] g127)
        have g39 := m_cues (l := l) (Q := Q) (L := L) (J := J) (I := K) (n := n) (x3 := Int32.ofNat m) o1 o2 (rf_goW rf_mo_135 rf_T_135 30 [74] g74)
        refine rf_goW rf_mo_135 rf_T_135 30 [39] (And.intro (fun hd => absurd ((nn_le a2.1 (by omega)).mp hd) (by omega)) (fun _ => And.intro (fun hd => absurd t0 hd) (fun _ => ?_)))
        exact fgt g39 (by repeat (first | exact True.intro | refine And.intro rfl ?_))
    exact rf_goW rf_mo_135 rf_T_135 30 [24] (key 0 (by omega))
  refine rf_goW rf_mo_135 rf_T_135 30 [20] (And.intro (fun e => bad fun q => i_nlt.mpr q.1 e) (fun e => And.intro (fun f => good ⟨i_nlt.mp e, f⟩) (fun f => bad fun q => f q.2)))
end MX
