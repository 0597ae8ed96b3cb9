/-! the model: a tick of a drive, the walk -/
section MV2
variable {l : Launch} {Q : rf_O → rf_S → Prop} {L : Nat} {I : Nat → Nat → Nat → Int32} {J : Nat → Nat → Nat → Int64} {σ : rf_S}
theorem liR_1 {r : Nat → Int32} {m : Int32} : liR r m 1 = r 1 := by unfold liR; split <;> simp [uf]
theorem liR_3 {r : Nat → Int32} {m : Int32} : liR r m 3 = r 3 := by unfold liR; split <;> simp [uf]
theorem liR_5 {r : Nat → Int32} {m : Int32} : liR r m 5 = r 5 := by unfold liR; split <;> simp [uf]
theorem liR_6 {r : Nat → Int32} {m : Int32} : liR r m 6 = r 6 := by unfold liR; split <;> simp [uf]
theorem d_tickDrive {h : Nat} (hh : h < 12) (hp : ok (I 100 10 h) 6) (hz : I 101 1 h = 0 ∨ I 101 1 h = 1) (ha : pl (I 100 11 h)) (hw : -14 ≤ I 100 14 h ∧ I 100 14 h ≤ 14)
    (hq : Q (.inl none) (sS L (mdS I h (ru (liR (mD I h) (I 100 23 (nn (I 100 10 h)))))) J)) : rf_C l 131 [.inr (.inr (some (8, 0))), .inl (Int32.ofNat h)] (sS L I J) Q := by
  apply rf_C.ofW
  have i12 := nt_ix (n := 12) hh (by decide)
  -- the braking is over, or not
  have g255 : ∀ g w, Q (.inl none) (sS L (mdS I h (ru2 g w)) J) → rf_W l 131 255 [some (.inr (.inr (some (8, 0)))), some (.inl (Int32.ofNat h)), none, none] [] (sS L (mdS I h (ru1 g w)) J) 0 0 Q := by
    intro g w q
    have e3 : mdS I h (ru1 g w) 101 1 h = g 3 := by rw [mdS_x (by decide)]; rfl
    have e5 : mdS I h (ru1 g w) 100 14 h = w := by rw [mdS_x (by decide)]; rfl
    have e2 : mdS I h (ru1 g w) 100 13 h = g 2 := by rw [mdS_x (by decide)]; rfl
    refine rf_goW rf_mo_131 rf_T_131 30 [] (And.intro i12 ?_)
    rw [nt_cl (by omega)]
    refine And.intro (fun (e : mdS I h (ru1 g w) 101 1 h = 0) => ?_) (fun (e : ¬ mdS I h (ru1 g w) 101 1 h = 0) => And.intro i12 ?_)
    · rw [e3] at e
      rw [ru2, if_pos e] at q
      exact q
    rw [nt_cl (by omega)]
    rw [e3] at e
    rw [ru2, if_neg e] at q
    refine And.intro (fun (f : ¬ mdS I h (ru1 g w) 100 14 h = 0) => ?_) (fun (f : mdS I h (ru1 g w) 100 14 h = 0) => And.intro i12 ?_)
    · rw [e5] at f
      rw [if_neg f] at q
      exact q
    rw [nt_cl (by omega)]
    rw [e5] at f
    rw [if_pos f] at q
    refine And.intro (fun (k : ¬ mdS I h (ru1 g w) 100 13 h = 0) => ?_) (fun (k : mdS I h (ru1 g w) 100 13 h = 0) => And.intro (Or.inl rfl) (And.intro i12 ?_))
    · rw [e2] at k
      rw [if_neg k] at q
      exact q
    rw [nt_cl (by omega)]
    rw [e2] at k
    rw [if_pos k] at q
    refine eqS (Q := Q) ?_ q
    show sS L (rf_u3 (mdS I h (ru1 g w)) 101 1 h 0) J = _
    rw [mdS_put (by decide)]
    rfl
  have g239 : ∀ g w, Q (.inl none) (sS L (mdS I h (ru2 g w)) J) → rf_W l 131 239 [some (.inr (.inr (some (8, 0)))), some (.inl (Int32.ofNat h)), none, none] [.inl w, .inl (Int32.ofNat h), .inr (.inr (some (100, 14)))] (sS L (mdS I h g) J) 0 0 Q := by
    intro g w q
    have k := g255 g w q
    have es : rf_u3 (rf_u3 (mdS I h g) 100 14 h w) 100 11 h (rf_u3 (mdS I h g) 100 14 h w 100 11 h + rf_u3 (mdS I h g) 100 14 h w 100 14 h) = mdS I h (ru1 g w) := by
      rw [mdS_put (by decide), mdS_x (by decide), mdS_x (by decide), mdS_put (by decide)]
      rfl
    rw [← es] at k
    refine rf_goW rf_mo_131 rf_T_131 30 [255] (And.intro i12 (And.intro i12 (And.intro i12 (And.intro i12 ?_))))
    rw [nt_cl (by omega)]
    exact k
  have g220 : ∀ g d, d = ruT g - g 1 → g 6 = I 101 2 h → Q (.inl none) (sS L (mdS I h (ru2 g (ruS g))) J) → rf_W l 131 220 [some (.inr (.inr (some (8, 0)))), some (.inl (Int32.ofNat h)), none, some (.inl d)] [] (sS L (mdS I h g) J) 0 0 Q := by
    rintro g _ rfl e6 q
    have e6' : mdS I h g 101 2 h = g 6 := by rw [mdS_o (by decide)]; exact e6.symm
    refine rf_goW rf_mo_131 rf_T_131 30 [239] (And.intro i12 ?_)
    rw [nt_cl (by omega)]
    refine And.intro (fun (e : mdS I h g 101 2 h = 0) => ?_) (fun (e : ¬ mdS I h g 101 2 h = 0) => ?_)
    · rw [e6'] at e
      rw [ruS, if_pos e] at q
      exact fgt (g239 g _ q) (by repeat (first | exact True.intro | refine And.intro rfl ?_))
    · rw [e6'] at e
      rw [ruS, if_neg e] at q
      exact fgt (g239 g _ q) (by repeat (first | exact True.intro | refine And.intro rfl ?_))
  obtain ⟨g, hg⟩ : ∃ g, g = liR (mD I h) (I 100 23 (nn (I 100 10 h))) := ⟨_, rfl⟩
  rw [← hg] at hq
  have g1 : g 1 = I 100 11 h := by rw [hg, liR_1]; rfl
  have g3 : g 3 = I 101 1 h := by rw [hg, liR_3]; rfl
  have g5 : g 5 = I 100 14 h := by rw [hg, liR_5]; rfl
  have g6 : g 6 = I 101 2 h := by rw [hg, liR_6]; rfl
  -- it brakes
  have g125 : (4 ≤ g 2 ∨ ¬ g 3 = 0) → rf_W l 131 125 [some (.inr (.inr (some (8, 0)))), some (.inl (Int32.ofNat h)), none, none] [] (sS L (mdS I h (uf g 3 1)) J) 0 0 Q := by
    intro hc
    have er : ru0 g = uf g 3 1 := by
      unfold ru0
      by_cases q : 4 ≤ g 2
      · rw [if_pos q]
      · rw [if_neg q]
        have q3 : g 3 = 1 := by
          have : ¬ g 3 = 0 := hc.elim (fun r => absurd r q) id
          rw [g3] at this ⊢
          exact hz.elim (fun r => absurd r this) id
        rw [← q3, uf_id]
    rw [ru, er] at hq
    obtain ⟨r, hr⟩ : ∃ r, r = uf g 3 1 := ⟨_, rfl⟩
    rw [← hr] at hq ⊢
    have r1 : r 1 = I 100 11 h := by rw [hr]; exact g1
    have r5 : r 5 = I 100 14 h := by rw [hr]; exact g5
    have r6 : r 6 = I 101 2 h := by rw [hr]; exact g6
    have r3 : ¬ r 3 = 0 := by rw [hr]; exact fun q => absurd (show (1 : Int32) = 0 from q) (by decide)
    have e5 : mdS I h r 100 14 h = r 5 := by rw [mdS_x (by decide)]; rfl
    have e1 : mdS I h r 100 11 h = r 1 := by rw [mdS_x (by decide)]; rfl
    have bx := br_x (r := r) (by rw [r1]; exact ha) (by rw [r5]; exact hw)
    have tt : brT r - r 1 = ruT r - r 1 := by rw [ruT, if_neg r3]
    have g219 : ∀ y, y = brY (r 1) (brX (r 5)) → rf_W l 131 219 [some (.inr (.inr (some (8, 0)))), some (.inl (Int32.ofNat h)), none, none] [.inl y] (sS L (mdS I h r) J) 0 0 Q := by
      intro y hy
      exact rf_goW rf_mo_131 rf_T_131 30 [220] (g220 r y (hy.trans (bx.trans tt)) r6 hq)
    have g169 : ∀ x, x = brX (r 5) → rf_W l 131 169 [some (.inr (.inr (some (8, 0)))), some (.inl (Int32.ofNat h)), none, none] [.inl x] (sS L (mdS I h r) J) 0 0 Q := by
      intro x hx
      rw [← hx, brY] at g219
      refine rf_goW rf_mo_131 rf_T_131 30 [219] (And.intro i12 ?_)
      rw [nt_cl (by omega)]
      refine And.intro (fun (e : mdS I h r 100 11 h + x ≤ 400) => And.intro i12 ?_) (fun (e : ¬ mdS I h r 100 11 h + x ≤ 400) => And.intro i12 ?_)
      · rw [nt_cl (by omega)]
        rw [e1] at e
        refine And.intro (fun (f : 0 ≤ mdS I h r 100 11 h + x) => ?_) (fun (f : ¬ 0 ≤ mdS I h r 100 11 h + x) => And.intro i12 ?_)
        · rw [e1] at f
          exact fgt (g219 x (by rw [if_pos e, if_pos f])) (by repeat (first | exact True.intro | refine And.intro rfl ?_))
        · rw [nt_cl (by omega)]
          rw [e1] at f
          have k := g219 (-(r 1)) (by rw [if_pos e, if_neg f])
          rw [← e1] at k
          exact fgt k (by repeat (first | exact True.intro | refine And.intro rfl ?_))
      · rw [nt_cl (by omega)]
        rw [e1] at e
        have k := g219 (400 - r 1) (by rw [if_neg e])
        rw [← e1] at k
        exact fgt k (by repeat (first | exact True.intro | refine And.intro rfl ?_))
    rw [brX] at g169
    refine rf_goW rf_mo_131 rf_T_131 30 [169] (And.intro i12 ?_)
    rw [nt_cl (by omega)]
    refine And.intro (fun (e : mdS I h r 100 14 h ≤ 4) => And.intro i12 ?_) (fun (e : ¬ mdS I h r 100 14 h ≤ 4) => And.intro i12 ?_)
    · rw [nt_cl (by omega)]
      rw [e5] at e
      refine And.intro (fun (f : -4 ≤ mdS I h r 100 14 h) => ?_) (fun (f : ¬ -4 ≤ mdS I h r 100 14 h) => And.intro i12 ?_)
      · rw [e5] at f
        exact g169 0 (by rw [if_pos e, if_pos f])
      · rw [nt_cl (by omega)]
        rw [e5] at f
        have k := g169 (r 5 + 4) (by rw [if_pos e, if_neg f])
        rw [← e5] at k
        exact k
    · rw [nt_cl (by omega)]
      rw [e5] at e
      have k := g169 (r 5 - 4) (by rw [if_neg e])
      rw [← e5] at k
      exact k
  have g118 : (4 ≤ g 2 ∨ ¬ g 3 = 0) → rf_W l 131 118 [some (.inr (.inr (some (8, 0)))), some (.inl (Int32.ofNat h)), none, none] [] (sS L (mdS I h g) J) 0 0 Q := by
    intro hc
    have k := g125 hc
    have es : rf_u3 (mdS I h g) 101 1 h 1 = mdS I h (uf g 3 1) := by rw [mdS_put (by decide)]; rfl
    rw [← es] at k
    refine rf_goW rf_mo_131 rf_T_131 30 [125] (And.intro (Or.inr rfl) (And.intro i12 ?_))
    rw [nt_cl (by omega)]
    exact k
  have g58 : rf_W l 131 58 [some (.inr (.inr (some (8, 0)))), some (.inl (Int32.ofNat h)), none, none] [] (sS L (mdS I h g) J) 0 0 Q := by
    have e2 : mdS I h g 100 13 h = g 2 := by rw [mdS_x (by decide)]; rfl
    have e3 : mdS I h g 101 1 h = g 3 := by rw [mdS_x (by decide)]; rfl
    have e4 : mdS I h g 100 12 h = g 4 := by rw [mdS_x (by decide)]; rfl
    have e1 : mdS I h g 100 11 h = g 1 := by rw [mdS_x (by decide)]; rfl
    refine rf_goW rf_mo_131 rf_T_131 30 [118, 77] (And.intro i12 ?_)
    rw [nt_cl (by omega)]
    refine And.intro (fun (e : 4 ≤ mdS I h g 100 13 h) => ?_) (fun (e : ¬ 4 ≤ mdS I h g 100 13 h) => And.intro i12 ?_)
    · rw [e2] at e
      exact g118 (Or.inl e)
    rw [nt_cl (by omega)]
    rw [e2] at e
    refine And.intro (fun (f : ¬ mdS I h g 101 1 h = 0) => ?_) (fun (f : mdS I h g 101 1 h = 0) => ?_)
    · rw [e3] at f
      exact g118 (Or.inr f)
    rw [e3] at f
    have er : ru0 g = g := by rw [ru0, if_neg e]
    rw [ru, er] at hq
    have ft : flT g - g 1 = ruT g - g 1 := by rw [ruT, if_pos f]
    have g220' : ∀ d, d = (if g 4 - g 1 ≤ 14 then (if -14 ≤ g 4 - g 1 then g 4 - g 1 else -14) else 14) → rf_W l 131 220 [some (.inr (.inr (some (8, 0)))), some (.inl (Int32.ofNat h)), none, some (.inl d)] [] (sS L (mdS I h g) J) 0 0 Q := fun d hd => g220 g d (hd.trans (fo_r.trans ft)) g6 hq
    have g91 : ∀ x, x = g 4 - g 1 → rf_W l 131 91 [some (.inr (.inr (some (8, 0)))), some (.inl (Int32.ofNat h)), none, some (.inl x)] [] (sS L (mdS I h g) J) 0 0 Q := by
      intro x hx
      rw [← hx] at g220'
      refine rf_goW rf_mo_131 rf_T_131 30 [220] (And.intro (fun e => And.intro (fun f => ?_) (fun f => ?_)) (fun e => ?_))
      · exact g220' x (by rw [if_pos e, if_pos f])
      · exact g220' (-14) (by rw [if_pos e, if_neg f])
      · exact g220' 14 (by rw [if_neg e])
    have g77 : rf_W l 131 77 [some (.inr (.inr (some (8, 0)))), some (.inl (Int32.ofNat h)), none, none] [] (sS L (mdS I h g) J) 0 0 Q := by
      refine rf_goW rf_mo_131 rf_T_131 30 [91] (And.intro i12 (And.intro i12 ?_))
      rw [nt_cl (by omega)]
      exact g91 _ (by show mdS I h g 100 12 h - mdS I h g 100 11 h = _; rw [e4, e1])
    exact g77
  refine rf_goW rf_mo_131 rf_T_131 30 [58] (And.intro i12 (And.intro i12 ?_))
  rw [nt_cl (by omega)]
  refine And.intro (fun (e : I 100 15 h ≤ 0) => And.intro hp (And.intro i12 (And.intro i12 ?_))) (fun (e : ¬ I 100 15 h ≤ 0) => And.intro i12 (And.intro i12 (And.intro i12 (And.intro i12 ?_))))
  · rw [nt_cl (by omega)]
    have es : rf_u3 (rf_u3 I 100 12 h (I 100 23 (nn (I 100 10 h)))) 100 13 h 0 = mdS I h g := by
      rw [hg, liR, if_pos (show mD I h 7 ≤ 0 from e)]
      refine (congrArg (fun K => rf_u3 (rf_u3 K 100 12 h (I 100 23 (nn (I 100 10 h)))) 100 13 h 0) (mdS_id (I := I) (h := h)).symm).trans ?_
      show rf_u3 (rf_u3 (mdS I h (mD I h)) 100 12 h (I 100 23 (nn (I 100 10 h)))) 100 13 h 0 = _
      rw [mdS_put (by decide), mdS_put (by decide)]
      rfl
    rw [← es] at g58
    exact fgt g58 (by repeat (first | exact True.intro | refine And.intro rfl ?_))
  · rw [nt_cl (by omega)]
    have es : rf_u3 (rf_u3 I 100 15 h (I 100 15 h - 1)) 100 13 h (rf_u3 I 100 15 h (I 100 15 h - 1) 100 13 h + 1) = mdS I h g := by
      rw [hg, liR, if_neg (show ¬ mD I h 7 ≤ 0 from e)]
      have e13 : rf_u3 I 100 15 h (I 100 15 h - 1) 100 13 h = I 100 13 h := by simp [rf_u3]
      rw [e13]
      refine (congrArg (fun K => rf_u3 (rf_u3 K 100 15 h (I 100 15 h - 1)) 100 13 h (I 100 13 h + 1)) (mdS_id (I := I) (h := h)).symm).trans ?_
      show rf_u3 (rf_u3 (mdS I h (mD I h)) 100 15 h (I 100 15 h - 1)) 100 13 h (I 100 13 h + 1) = _
      rw [mdS_put (by decide), mdS_put (by decide)]
      rfl
    rw [← es] at g58
    exact fgt g58 (by repeat (first | exact True.intro | refine And.intro rfl ?_))
end MV2
