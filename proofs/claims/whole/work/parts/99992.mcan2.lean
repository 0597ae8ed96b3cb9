/-! the model: canBe -/
section MT
variable {l : Launch} {Q : rf_O → rf_S → Prop} {L : Nat} {I : Nat → Nat → Nat → Int32} {J : Nat → Nat → Nat → Int64} {σ : rf_S}
def cb0 (I : Nat → Nat → Nat → Int32) (a pa b pb : Int32) : Nat → Int32 := uf (uf (slR (I 100 23) (I 100 38) 6) (nn a) pa) (nn b) pb
noncomputable def cbR (I : Nat → Nat → Nat → Int32) (a pa b pb r : Int32) : Int32 × (Nat → Int32) := cb2 (mP I) (mB I) (mN I) (I 100 23) (I 100 27) r a b (1, cb0 I a pa b pb) 8
theorem d_canBe {a pa b pb r : Int32} (ha : ok a 6) (hb : ok b 6) (hc : ∀ c, c < 8 → mpOk I c) (hq : ∀ t, t = cbR I a pa b pb r → Q (.inl (some (.inl t.1))) (sS L (ro I 100 38 t.2) J)) : rf_C l 88 [.inr (.inr (some (8, 0))), .inl a, .inl pa, .inl b, .inl pb, .inl r] (sS L I J) Q := by
  apply rf_C.ofW
  have outer : ∀ c, c ≤ 8 → ∀ t, t = cb2 (mP I) (mB I) (mN I) (I 100 23) (I 100 27) r a b (1, cb0 I a pa b pb) c → rf_W l 88 51 [some (.inr (.inr (some (8, 0)))), some (.inl a), some (.inl pa), some (.inl b), some (.inl pb), some (.inl r), some (.inl t.1), some (.inl (Int32.ofNat c)), none, none, none] [] (sS L (ro I 100 38 t.2) J) 0 0 Q := by
    refine lp_dn ?_ ?_
    · intro t ht
      refine rf_goW rf_mo_88 rf_T_88 30 [51] (And.intro (fun _ => And.intro ?_ (hq t ht)) (fun hd => absurd (Int32.le_refl _) hd))
      rw [ht]
      exact cb2_01 (Or.inr rfl) 8
    · intro c hi ih t ht
      rw [← nt_succ c] at ih
      have i8 := nt_ix (n := 8) hi (by decide)
      obtain ⟨hn, hP⟩ := hc c hi
      have h5 : nn (I 100 29 c) < 5 := hn.2
      have inner : (Int32.ofNat c = r ∨ bsy (I 100 27 c)) → ∀ m, m ≤ mN I c → ∀ u, u = cb1 (mP I c) (mB I c) (I 100 23) a b t m → rf_W l 88 80 [some (.inr (.inr (some (8, 0)))), some (.inl a), some (.inl pa), some (.inl b), some (.inl pb), some (.inl r), some (.inl u.1), some (.inl (Int32.ofNat c)), some (.inl (Int32.ofNat m)), none, none] [] (sS L (ro I 100 38 u.2) J) 0 0 Q := by
        intro hact
        refine lp_dn ?_ ?_
        · intro u hu
          refine rf_goW rf_mo_88 rf_T_88 30 [51, 80] (And.intro i8 ?_)
          rw [nt_cl (by omega)]
          refine And.intro (fun _ => fgt (ih u ?_) (by repeat (first | exact True.intro | refine And.intro rfl ?_))) (fun hd => absurd ((nn_le hn.1 (by show nn _ < _; omega)).mpr (Nat.le_refl _)) hd)
          rw [cb2, ← ht, cif_t hact]
          exact hu
        · intro m hm ihm u hu
          have hm4 : m < 4 := by have : m < nn (I 100 29 c) := hm
                                 omega
          obtain ⟨q0, q2, q3⟩ := hP m hm
          rw [← nt_succ m] at ihm
          have e38 : ∀ v k, ¬ k = 38 → ro I 100 38 v 100 k = I 100 k := fun v k hk => ro_ne (by omega)
          have eP : ∀ v f, f < 5 → mP (ro I 100 38 v) c f = mP I c f := fun v f hf => by
            funext j
            show ro I 100 38 v 100 (30 + f) (4 * c + j) = _
            rw [e38 v _ (by omega)]
            rfl
          refine rf_goW rf_mo_88 rf_T_88 60 [51, 80, 114] (And.intro i8 ?_)
          rw [nt_cl (by omega)]
          refine And.intro (fun hd => absurd ((nn_le hn.1 (by omega)).mp hd) (by have : m < nn (I 100 29 c) := hm
                                                                                 omega)) (fun _ => And.intro (ix32 hi hm4) ?_)
          rw [nn4 hi hm4]
          have mg : mayG (mP (ro I 100 38 u.2) c) (mB (ro I 100 38 u.2) c) (ro I 100 38 u.2 100 38) m ↔ mayG (mP I c) (mB I c) u.2 m := by
            have eB : mB (ro I 100 38 u.2) c = mB I c := by
              funext j
              show ro I 100 38 u.2 100 35 (4 * c + j) = _
              rw [e38 _ _ (by decide)]
              rfl
            unfold mayG
            rw [eP _ 0 (by decide), eP _ 1 (by decide), eP _ 3 (by decide), eP _ 4 (by decide), eB, ro_self]
          have g199 : ∀ (z : Int32) (v : Nat → Int32) (x y : Option rf_V), (z, v) = cb1 (mP I c) (mB I c) (I 100 23) a b t (m + 1) → rf_W l 88 199 [some (.inr (.inr (some (8, 0)))), some (.inl a), some (.inl pa), some (.inl b), some (.inl pb), some (.inl r), some (.inl z), some (.inl (Int32.ofNat c)), some (.inl (Int32.ofNat m)), x, y] [] (sS L (ro I 100 38 v) J) 0 0 Q := fun z v x y he =>
            rf_goW rf_mo_88 rf_T_88 20 [80] (fgt (ihm (z, v) he) (by repeat (first | exact True.intro | refine And.intro rfl ?_)))
          have op : ok (ro I 100 38 u.2 100 30 (4 * c + m)) 6 := by rw [e38 _ _ (by decide)]; exact q0
          have g114 : ∀ k z : Int32, k = mP I c 0 m → (¬ z = 0 ↔ mayG (mP I c) (mB I c) u.2 m) → rf_W l 88 114 [some (.inr (.inr (some (8, 0)))), some (.inl a), some (.inl pa), some (.inl b), some (.inl pb), some (.inl r), some (.inl u.1), some (.inl (Int32.ofNat c)), some (.inl (Int32.ofNat m)), some (.inl k), none] [.inl z] (sS L (ro I 100 38 u.2) J) 0 0 Q := by
            intro k z hk hz
            have ok9 : ok k 6 := by rw [hk]; exact q0
            have g128 : (mP I c 0 m = a ∨ mP I c 0 m = b) → rf_W l 88 128 [some (.inr (.inr (some (8, 0)))), some (.inl a), some (.inl pa), some (.inl b), some (.inl pb), some (.inl r), some (.inl u.1), some (.inl (Int32.ofNat c)), some (.inl (Int32.ofNat m)), some (.inl k), some (.inl z)] [] (sS L (ro I 100 38 u.2) J) 0 0 Q := by
              intro e
              have y : ∀ w, w = (cb1 (mP I c) (mB I c) (I 100 23) a b t (m + 1)).1 → rf_W l 88 160 [some (.inr (.inr (some (8, 0)))), some (.inl a), some (.inl pa), some (.inl b), some (.inl pb), some (.inl r), some (.inl u.1), some (.inl (Int32.ofNat c)), some (.inl (Int32.ofNat m)), some (.inl k), some (.inl z)] [.inl w] (sS L (ro I 100 38 u.2) J) 0 0 Q := by
                rintro _ rfl
                refine rf_goW rf_mo_88 rf_T_88 20 [199] (g199 _ _ _ _ ?_)
                rw [cb1, cif_t e, ← hu]
              have one : ¬ u.1 = 0 → (mayG (mP I c) (mB I c) u.2 m ∨ u.2 (nn (mP I c 0 m)) = I 100 23 (nn (mP I c 0 m))) → (1 : Int32) = (cb1 (mP I c) (mB I c) (I 100 23) a b t (m + 1)).1 := fun f g => by rw [cb1, cif_t e, ← hu, cif_t ⟨f, g⟩]
              have zero : ¬ (¬ u.1 = 0 ∧ (mayG (mP I c) (mB I c) u.2 m ∨ u.2 (nn (mP I c 0 m)) = I 100 23 (nn (mP I c 0 m)))) → (0 : Int32) = (cb1 (mP I c) (mB I c) (I 100 23) a b t (m + 1)).1 := fun f => by rw [cb1, cif_t e, ← hu, cif_f f]
              have ep : ro I 100 38 u.2 100 38 (nn k) = u.2 (nn (mP I c 0 m)) := by rw [ro_self, hk]
              have em : ro I 100 38 u.2 100 23 (nn k) = I 100 23 (nn (mP I c 0 m)) := by rw [e38 _ _ (by decide), hk]
              exact rf_goW rf_mo_88 rf_T_88 40 [160] (And.intro (fun f => y _ (zero fun q => q.1 f)) (fun f => And.intro (fun g => y _ (one f (Or.inl (hz.mp g)))) (fun g => And.intro ok9 (And.intro ok9 (And.intro (fun j => y _ (zero fun q => q.2.elim (fun w => hz.mpr w g) (fun w => j (ep.trans (w.trans em.symm))))) (fun j => y _ (one f (Or.inr (ep.symm.trans (j.trans em))))))))))
            have g165 : ¬ (mP I c 0 m = a ∨ mP I c 0 m = b) → rf_W l 88 165 [some (.inr (.inr (some (8, 0)))), some (.inl a), some (.inl pa), some (.inl b), some (.inl pb), some (.inl r), some (.inl u.1), some (.inl (Int32.ofNat c)), some (.inl (Int32.ofNat m)), some (.inl k), some (.inl z)] [] (sS L (ro I 100 38 u.2) J) 0 0 Q := by
              intro e
              have y : ∀ w, w = cif (mayG (mP I c) (mB I c) u.2 m) (mP I c 1 m) (I 100 23 (nn (mP I c 0 m))) → rf_W l 88 198 [some (.inr (.inr (some (8, 0)))), some (.inl a), some (.inl pa), some (.inl b), some (.inl pb), some (.inl r), some (.inl u.1), some (.inl (Int32.ofNat c)), some (.inl (Int32.ofNat m)), some (.inl k), some (.inl z)] [.inl w, .inl k, .inr (.inr (some (100, 38)))] (sS L (ro I 100 38 u.2) J) 0 0 Q := by
                intro w hw
                have es : rf_u3 (ro I 100 38 u.2) 100 38 (nn k) w = ro I 100 38 (uf u.2 (nn (mP I c 0 m)) w) := by rw [u3_ro, ro_self, ro_ro, hk]
                have g := g199 u.1 (uf u.2 (nn (mP I c 0 m)) w) (some (.inl k)) (some (.inl z)) (by rw [cb1, cif_f e, ← hu, hw])
                rw [← es] at g
                exact rf_goW rf_mo_88 rf_T_88 20 [199] (And.intro ok9 g)
              have e1 : ro I 100 38 u.2 100 31 (4 * c + m) = mP I c 1 m := by rw [e38 _ _ (by decide)]; rfl
              have em : ro I 100 38 u.2 100 23 (nn k) = I 100 23 (nn (mP I c 0 m)) := by rw [e38 _ _ (by decide), hk]
              refine rf_goW rf_mo_88 rf_T_88 40 [198] (And.intro (fun f => And.intro ok9 (y _ ?_)) (fun f => And.intro (ix32 hi hm4) ?_))
              · rw [cif_f (fun q => hz.mpr q f)]
                exact em
              · rw [nn4 hi hm4]
                refine y _ ?_
                rw [cif_t (hz.mp f)]
                exact e1
            exact rf_goW rf_mo_88 rf_T_88 20 [128, 165] (And.intro (fun e => g128 (Or.inl (hk.symm.trans e))) (fun e => And.intro (fun f => g165 fun q => q.elim (fun w => e (hk.trans w)) (fun w => f (hk.trans w))) (fun f => g128 (Or.inr (hk.symm.trans f)))))
          have eqp : ro I 100 38 u.2 100 30 (4 * c + m) = mP I c 0 m := by rw [e38 _ _ (by decide)]; rfl
          refine And.intro ⟨by decide, by decide⟩ (d_mayGo (I := ro I 100 38 u.2) hi hm4 ?_ (fun w => g114 _ 1 eqp ⟨fun _ => mg.mp w, fun _ => by decide⟩) (fun w => g114 _ 0 eqp ⟨fun q => absurd rfl q, fun q => absurd (mg.mpr q) w⟩))
          rw [eP _ 3 (by decide), eP _ 0 (by decide)]
          by_cases f : mP I c 3 m = -1
          · exact Or.inl f
          · have o := q3 f
            have o2 : nn (mP I c 3 m) < m := o.2
            exact Or.inr ⟨⟨o.1, by show nn (mP I c 3 m) < 4; omega⟩, (hP _ (by omega)).1⟩
      have e27 : ro I 100 38 t.2 100 27 c = I 100 27 c := by rw [ro_ne (by decide)]
      refine rf_goW rf_mo_88 rf_T_88 40 [51, 80] (And.intro (fun hd => absurd ((nt_le (i := 8) (by omega) (by omega)).mp hd) (by omega)) (fun _ => And.intro (fun e => inner (Or.inl e) 0 (by omega) t rfl) (fun e => And.intro ⟨by decide, by decide⟩ (d_isActive hi (fun f => br_ne1 (inner (Or.inr (e27 ▸ f)) 0 (by omega) t rfl)) (fun f => br_ne0 (ih t ?_))))))
      rw [cb2, ← ht, cif_f (fun q => q.elim e fun w => f (by rw [e27]; exact w))]
  have key1 : ∀ k, k ≤ 6 → rf_W l 88 3 [some (.inr (.inr (some (8, 0)))), some (.inl a), some (.inl pa), some (.inl b), some (.inl pb), some (.inl r), some (.inl (Int32.ofNat k)), none, none, none, none] [] (sS L (ro I 100 38 (slR (I 100 23) (I 100 38) k)) J) 0 0 Q := by
    refine lp_dn ?_ ?_
    · have o := outer 0 (by omega) _ rfl
      rw [cb2] at o
      have es : rf_u3 (rf_u3 (ro I 100 38 (slR (I 100 23) (I 100 38) 6)) 100 38 (nn a) pa) 100 38 (nn b) pb = ro I 100 38 (cb0 I a pa b pb) := by
        simp only [u3_ro, ro_self, ro_ro]
        rfl
      have o' : rf_W l 88 51 [some (.inr (.inr (some (8, 0)))), some (.inl a), some (.inl pa), some (.inl b), some (.inl pb), some (.inl r), some (.inl 1), some (.inl (Int32.ofNat 0)), none, none, none] [] (sS L (ro I 100 38 (cb0 I a pa b pb)) J) 0 0 Q := o
      rw [← es] at o'
      exact rf_goW rf_mo_88 rf_T_88 40 [3, 51] (And.intro (fun _ => And.intro ha (And.intro hb o')) (fun hd => absurd (Int32.le_refl _) hd))
    · intro k hk ih
      rw [← nt_succ k] at ih
      have i6 := nt_ix (n := 6) hk (by decide)
      refine rf_goW rf_mo_88 rf_T_88 40 [3] (And.intro (fun hd => absurd ((nt_le (i := 6) (by omega) (by omega)).mp hd) (by omega)) (fun _ => And.intro i6 (And.intro i6 ?_)))
      rw [nt_cl (by omega)]
      have es : rf_u3 (ro I 100 38 (slR (I 100 23) (I 100 38) k)) 100 38 k (ro I 100 38 (slR (I 100 23) (I 100 38) k) 100 23 k) = ro I 100 38 (slR (I 100 23) (I 100 38) (k + 1)) := by
        rw [ro_ne (by decide), u3_ro, ro_self, ro_ro, slR_s]
      rw [← es] at ih
      exact ih
  have k0 := key1 0 (by omega)
  rw [slR_0, ro_id] at k0
  exact rf_goW rf_mo_88 rf_T_88 3 [3] k0
end MT
