/-! the model: halt, apart, piece -/
section MH
variable {l : Launch} {Q : rf_O → rf_S → Prop} {L : Nat} {I : Nat → Nat → Nat → Int32} {J : Nat → Nat → Nat → Int64} {σ : rf_S}
/-- the model's rows of states and speeds anew -/
def hm2 (I : Nat → Nat → Nat → Int32) (s : (Nat → Int32) × (Nat → Int32)) : Nat → Nat → Nat → Int32 := ro (ro I 100 27 s.1) 100 24 s.2
theorem hm2_id : hm2 I (I 100 27, I 100 24) = I := by
  show ro (ro I 100 27 (I 100 27)) 100 24 (I 100 24) = I
  rw [ro_id, ro_id]
theorem hm2_2 {s s' : (Nat → Int32) × (Nat → Int32)} : ro (ro (hm2 I s) 100 27 s'.1) 100 24 s'.2 = hm2 I s' := by
  unfold hm2
  rw [ro_comm (I := ro I 100 27 s.1) (by decide), ro_ro, ro_ro]
theorem hm2_b {b : Nat} {s : (Nat → Int32) × (Nat → Int32)} (h : ¬ b = 100) : hm2 I s b = I b := by rw [hm2, ro_b h, ro_b h]
theorem hm2_x {s : (Nat → Int32) × (Nat → Int32)} : hm2 I s 100 27 = s.1 := by rw [hm2, ro_ne (by decide), ro_self]
theorem hm2_v {s : (Nat → Int32) × (Nat → Int32)} : hm2 I s 100 24 = s.2 := ro_self
theorem hm2_o {k : Nat} {s : (Nat → Int32) × (Nat → Int32)} (h1 : ¬ k = 27) (h2 : ¬ k = 24) : hm2 I s 100 k = I 100 k := by rw [hm2, ro_ne (by omega), ro_ne (by omega)]
/-- what is asked of the model's plans -/
def mpOk (I : Nat → Nat → Nat → Int32) (c : Nat) : Prop := ok (I 100 29 c) 5 ∧ ∀ m, m < mN I c → ok (mP I c 0 m) 6 ∧ ok (mP I c 2 m) 13 ∧ (¬ mP I c 3 m = -1 → ok (mP I c 3 m) m)
def mQ (I : Nat → Nat → Nat → Int32) (c : Nat) : Nat → Int32 := mP I c 0
theorem d_halt {s : Int32} (hc : ∀ c, c < 8 → mpOk I c) (h0 : ¬ ok s 3 → Q (.inl (some (.inl 0))) (sS L (thI I 1) J))
    (hq : ok s 3 → ∀ r, r = hlF (I 100 28) s (mQ I) (mN I) (I 100 27) (I 100 24) 8 → Q (.inl (some (.inl r.2))) (sS L (hm2 (thI I 0) r.1) J)) : rf_C l 102 [.inr (.inr (some (8, 0))), .inl s] (sS L I J) Q := by
  apply rf_C.ofW
  refine rf_goW rf_mo_102 rf_T_102 30 [17] (And.intro ⟨by decide, by decide⟩ (d_isNumber (n := 3) (by decide) (fun a1 => br_eq1 ?_) (fun a1 => br_eq0 ?_)))
  · have e100 : thI I 0 100 = I 100 := thI_b (by decide)
    have key : ∀ c, c ≤ 8 → ∀ r, r = hlF (I 100 28) s (mQ I) (mN I) (I 100 27) (I 100 24) c → rf_W l 102 21 [some (.inr (.inr (some (8, 0)))), some (.inl s), some (.inl r.2), some (.inl (Int32.ofNat c))] [] (sS L (hm2 (thI I 0) r.1) J) 0 0 Q := by
      refine lp_dn ?_ ?_
      · intro r hr
        exact rf_goW rf_mo_102 rf_T_102 60 [21] (And.intro (fun _ => hq a1 r hr) (fun hd => absurd (Int32.le_refl _) hd))
      · intro c hi ih r hr
        have i8 := nt_ix (n := 8) hi (by decide)
        rw [← nt_succ c] at ih
        have e8 : hm2 (thI I 0) r.1 8 0 0 = 0 := by rw [hm2_b (by decide), thI_0]
        have e28 : hm2 (thI I 0) r.1 100 28 c = I 100 28 c := by rw [hm2_o (by decide) (by decide), e100]
        have e27 : hm2 (thI I 0) r.1 100 27 c = r.1.1 c := by rw [hm2_x]
        have e29 : hm2 (thI I 0) r.1 100 29 = I 100 29 := by rw [hm2_o (by decide) (by decide), e100]
        have e30 : hm2 (thI I 0) r.1 100 30 = I 100 30 := by rw [hm2_o (by decide) (by decide), e100]
        refine rf_goW rf_mo_102 rf_T_102 60 [21] (And.intro (fun hd => absurd ((nt_le (i := 8) (by omega) (by omega)).mp hd) (by omega)) (fun _ => And.intro (fun hd => absurd e8 hd) (fun _ => And.intro i8 ?_)))
        rw [nt_cl (by omega)]
        have no : ¬ (I 100 28 c = s ∧ bsy (r.1.1 c)) → rf_W l 102 21 [some (.inr (.inr (some (8, 0)))), some (.inl s), some (.inl r.2), some (.inl (Int32.ofNat c + 1))] [] (sS L (hm2 (thI I 0) r.1) J) 0 0 Q := fun q => ih r (by rw [hlF, ← hr, cif_f q])
        have eN : mN (hm2 (thI I 0) r.1) c = mN I c := by unfold mN; rw [e29]
        have eP : mP (hm2 (thI I 0) r.1) c 0 = mP I c 0 := by
          funext m
          show hm2 (thI I 0) r.1 100 30 (4 * c + m) = _
          rw [e30]
          rfl
        refine And.intro (fun f => no fun q => f (e28.trans q.1)) (fun f => And.intro ⟨by decide, by decide⟩ (d_isActive hi (fun ha => br_ne1 ?_) (fun ha => br_ne0 (no fun q => ha (by rw [e27]; exact q.2)))))
        refine And.intro ⟨by decide, by decide⟩ (d_stop hi (by rw [e29]; exact (hc c hi).1) (fun j hj => by rw [eP]; rw [eN] at hj; exact ((hc c hi).2 j hj).1) ?_)
        have q := ih ((uf r.1.1 c 5, stR (mQ I c) r.1.2 (mN I c)), r.2 + 1) (by rw [hlF, ← hr, cif_t ⟨e28.symm.trans f, by rw [← e27]; exact ha⟩])
        rw [← hm2_2 (s := r.1)] at q
        rw [hm2_x, hm2_v, eP, eN]
        exact q
    have k0 := key 0 (by omega) _ rfl
    rw [hlF] at k0
    have e0 : hm2 (thI I 0) (I 100 27, I 100 24) = thI I 0 := by
      have := hm2_id (I := thI I 0)
      rw [e100] at this
      exact this
    rw [e0] at k0
    have g : rf_W l 102 17 [some (.inr (.inr (some (8, 0)))), some (.inl s), none, none] [] (sS L (thI I 0) J) 0 0 Q := rf_goW rf_mo_102 rf_T_102 30 [21] k0
    exact g
  · have g : rf_W l 102 17 [some (.inr (.inr (some (8, 0)))), some (.inl s), none, none] [] (sS L (thI I 1) J) 0 0 Q := rf_goW rf_mo_102 rf_T_102 30 [] (And.intro (fun hd => absurd hd (by decide)) (fun _ => And.intro (fun _ => h0 a1) (fun (e : thI I 1 8 0 0 = 0) => absurd (thI_0.symm.trans e) (by decide))))
    exact g
/-- lowest and highest, from other beginnings -/
def lowG (r a : Nat → Int32) (p : Int32) : Nat → Int32
  | 0 => 1000
  | i + 1 => if r i = p then (if lowG r a p i ≤ a i then lowG r a p i else a i) else lowG r a p i
def hghG (r a : Nat → Int32) (p : Int32) : Nat → Int32
  | 0 => -1
  | i + 1 => if r i = p then (if a i ≤ hghG r a p i then hghG r a p i else a i) else hghG r a p i
theorem d_apart {p : Int32} (hq : Q (.inl (some (.inl (hghG (I 100 10) (I 100 11) p 12 - lowG (I 100 10) (I 100 11) p 12)))) (sS L I J)) : rf_C l 133 [.inr (.inr (some (8, 0))), .inl p] (sS L I J) Q := by
  apply rf_C.ofW
  refine rf_goW rf_mo_133 rf_T_133 20 [9] ?_
  have key : ∀ i, i ≤ 12 → rf_W l 133 9 [some (.inr (.inr (some (8, 0)))), some (.inl p), some (.inl (lowG (I 100 10) (I 100 11) p i)), some (.inl (hghG (I 100 10) (I 100 11) p i)), some (.inl (Int32.ofNat i))] [] (sS L I J) 0 0 Q := by
    refine lp_dn ?_ ?_
    · exact rf_goW rf_mo_133 rf_T_133 60 [9] (And.intro (fun _ => hq) (fun hd => absurd (Int32.le_refl _) hd))
    · intro i hi ih
      have i12 := nt_ix (n := 12) hi (by decide)
      rw [← nt_succ i, lowG, hghG] at ih
      refine rf_goW rf_mo_133 rf_T_133 60 [9, 52, 75] (And.intro (fun hd => absurd ((nt_le (i := 12) (by omega) (by omega)).mp hd) (by omega)) (fun _ => And.intro i12 ?_))
      rw [nt_cl (by omega)]
      refine And.intro (fun (e : I 100 10 i = p) => ?_) (fun (e : ¬ I 100 10 i = p) => ?_)
      · rw [if_pos e, if_pos e] at ih
        have g75 : ∀ w, w = (if I 100 11 i ≤ hghG (I 100 10) (I 100 11) p i then hghG (I 100 10) (I 100 11) p i else I 100 11 i) → rf_W l 133 75 [some (.inr (.inr (some (8, 0)))), some (.inl p), some (.inl (if lowG (I 100 10) (I 100 11) p i ≤ I 100 11 i then lowG (I 100 10) (I 100 11) p i else I 100 11 i)), some (.inl (hghG (I 100 10) (I 100 11) p i)), some (.inl (Int32.ofNat i))] [.inl w] (sS L I J) 0 0 Q := by
          rintro _ rfl
          exact rf_goW rf_mo_133 rf_T_133 20 [9] ih
        have g52 : ∀ w, w = (if lowG (I 100 10) (I 100 11) p i ≤ I 100 11 i then lowG (I 100 10) (I 100 11) p i else I 100 11 i) → rf_W l 133 52 [some (.inr (.inr (some (8, 0)))), some (.inl p), some (.inl (lowG (I 100 10) (I 100 11) p i)), some (.inl (hghG (I 100 10) (I 100 11) p i)), some (.inl (Int32.ofNat i))] [.inl w] (sS L I J) 0 0 Q := by
          rintro _ rfl
          refine rf_goW rf_mo_133 rf_T_133 30 [75] (And.intro i12 ?_)
          rw [nt_cl (by omega)]
          refine And.intro (fun (f : I 100 11 i ≤ hghG (I 100 10) (I 100 11) p i) => g75 _ (if_pos f).symm) (fun (f : ¬ I 100 11 i ≤ hghG (I 100 10) (I 100 11) p i) => And.intro i12 ?_)
          rw [nt_cl (by omega)]
          exact g75 _ (if_neg f).symm
        refine And.intro i12 ?_
        rw [nt_cl (by omega)]
        refine And.intro (fun (f : lowG (I 100 10) (I 100 11) p i ≤ I 100 11 i) => g52 _ (if_pos f).symm) (fun (f : ¬ lowG (I 100 10) (I 100 11) p i ≤ I 100 11 i) => And.intro i12 ?_)
        rw [nt_cl (by omega)]
        exact g52 _ (if_neg f).symm
      · rw [if_neg e, if_neg e] at ih
        exact ih
  exact key 0 (by omega)
end MH
