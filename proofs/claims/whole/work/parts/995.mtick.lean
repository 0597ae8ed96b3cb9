/-! the model: speeds, loads, stop -/
section ME
variable {l : Launch} {Q : rf_O → rf_S → Prop} {L : Nat} {I : Nat → Nat → Nat → Int32} {J : Nat → Nat → Nat → Int64} {σ : rf_S}
theorem d_hasReached {c m : Nat} {b s w : Int32} (hc : c < 8) (hm : m < 4) (h1 : rchd (mP I c 1 m) b s w → Q (.inl (some (.inl 1))) (sS L I J)) (h0 : ¬ rchd (mP I c 1 m) b s w → Q (.inl (some (.inl 0))) (sS L I J)) : rf_C l 86 [.inr (.inr (some (8, 0))), .inl (Int32.ofNat c), .inl (Int32.ofNat m), .inl b, .inl s, .inl w] (sS L I J) Q := by
  apply rf_C.ofW
  refine rf_goW rf_mo_86 rf_T_86 60 [] (And.intro (ix32 hc hm) ?_)
  rw [nn4 hc hm]
  refine And.intro (fun hc => ?_) (fun hc => ?_)
  · have hc' : ¬ b ≤ mP I c 1 m := fun q => i_nlt.mpr q hc
    rw [rchd, if_neg hc'] at h1 h0
    exact And.intro (fun hd => And.intro (Or.inl rfl) (h0 (i_nle.mpr hd))) (fun hd => And.intro (Or.inr rfl) (h1 (i_nlt.mp hd)))
  · have hc' : b ≤ mP I c 1 m := i_nlt.mp hc
    rw [rchd, if_pos hc'] at h1 h0
    exact And.intro (fun hd => And.intro (Or.inl rfl) (h0 (i_nle.mpr hd))) (fun hd => And.intro (Or.inr rfl) (h1 (i_nlt.mp hd)))
theorem fa_dn : ∀ a, a < 13 → (if Int32.ofNat a ≤ 0 then (0 : Int32) else Int32.ofNat a - 1) = mx 0 (Int32.ofNat a - 1) := by
  intro a ha
  have : a = 0 ∨ a = 1 ∨ a = 2 ∨ a = 3 ∨ a = 4 ∨ a = 5 ∨ a = 6 ∨ a = 7 ∨ a = 8 ∨ a = 9 ∨ a = 10 ∨ a = 11 ∨ a = 12 := by omega
  rcases this with rfl | rfl | rfl | rfl | rfl | rfl | rfl | rfl | rfl | rfl | rfl | rfl | rfl <;> decide
theorem fa_up : ∀ a, a < 13 → ∀ t, t < 13 → (if Int32.ofNat t ≤ Int32.ofNat a + 1 then Int32.ofNat t else Int32.ofNat a + 1) = Int32.ofNat (min (a + 1) t) := by decide
theorem d_faster {v t x h : Int32} (hv : ok v 13) (ht : ok t 13) (hx : 0 ≤ x) (hq : Q (.inl (some (.inl (adU v t x h)))) σ) : rf_C l 129 [.inl v, .inl t, .inl x, .inl h] σ Q := by
  have hv2 : nn v < 13 := hv.2
  have ht2 : nn t < 13 := ht.2
  apply rf_C.ofW
  refine rf_goW rf_mo_129 rf_T_129 20 [32] (And.intro (fun e => ?_) (fun e => ?_))
  · rw [adU, if_neg e] at hq
    have key : ∀ n, n < 14 → (hsN (min (nn v + 1) (nn t)) x = hsN n x) → rf_W l 129 32 [some (.inl v), some (.inl t), some (.inl x), some (.inl h), some (.inl (Int32.ofNat n))] [] σ 0 0 Q := by
      intro n
      induction n with
      | zero =>
        intro _ he
        rw [he] at hq
        refine rf_goW rf_mo_129 rf_T_129 20 [32] (And.intro (by decide) ?_)
        rw [hs_tri 0 (by decide)]
        exact And.intro (fun _ => hq) (fun hc => absurd hx hc)
      | succ n ih =>
        intro hn he
        refine rf_goW rf_mo_129 rf_T_129 20 [32] (And.intro (by decide) ?_)
        rw [hs_tri (n + 1) hn]
        rw [hsN] at he
        refine And.intro (fun hc => ?_) (fun hc => ?_)
        · rw [if_neg (i_nlt.mpr hc)] at he
          rw [he] at hq
          exact hq
        · rw [if_pos (i_nle.mp hc)] at he
          have := ih (by omega) he
          rw [← hs_pre n (by omega)] at this
          exact this
    have up := fa_up (nn v) hv2 (nn t) ht2
    rw [nn_of hv.1, nn_of ht.1] at up
    have k0 := key (min (nn v + 1) (nn t)) (by omega) rfl
    rw [← up] at k0
    refine And.intro (fun f => ?_) (fun f => ?_)
    · rw [if_pos f] at k0; exact k0
    · rw [if_neg f] at k0; exact k0
  · rw [adU, if_pos e] at hq
    have dn := fa_dn (nn v) hv2
    rw [nn_of hv.1] at dn
    rw [← dn] at hq
    refine And.intro (fun f => ?_) (fun f => ?_)
    · rw [if_pos f] at hq; exact hq
    · rw [if_neg f] at hq; exact hq
def lodV (c p : Int32) (n : Nat → Int32) : Int32 := if c = -1 then (if p = -1 then 0 else n (nn p)) else c
theorem lt0 {x : Int32} (h : x = -1 ∨ 0 ≤ x) : x < 0 ↔ x = -1 := by
  constructor
  · intro q
    exact h.elim id fun r => absurd q (i_nlt.mpr r)
  · intro q
    rw [q]
    decide
theorem d_load {h : Nat} (hh : h < 12) (hc : I 100 16 h = -1 ∨ 0 ≤ I 100 16 h) (hp : I 100 10 h = -1 ∨ ok (I 100 10 h) 6) (hq : Q (.inl (some (.inl (lodV (I 100 16 h) (I 100 10 h) (I 100 26))))) (sS L I J)) : rf_C l 132 [.inr (.inr (some (8, 0))), .inl (Int32.ofNat h)] (sS L I J) Q := by
  apply rf_C.ofW
  have i12 := nt_ix (n := 12) hh (by decide)
  refine rf_goW rf_mo_132 rf_T_132 60 [] (And.intro i12 (And.intro i12 ?_))
  rw [nt_cl (by omega)]
  have hp' : I 100 10 h = -1 ∨ 0 ≤ I 100 10 h := hp.elim Or.inl fun q => Or.inr q.1
  refine And.intro (fun (e : I 100 16 h < 0) => ?_) (fun (e : ¬ I 100 16 h < 0) => And.intro i12 ?_)
  · rw [lodV, if_pos ((lt0 hc).mp e)] at hq
    refine And.intro (fun (f : 0 ≤ I 100 10 h) => ?_) (fun (f : ¬ 0 ≤ I 100 10 h) => ?_)
    · have f' : ¬ I 100 10 h = -1 := fun q => by rw [q] at f; exact absurd f (by decide)
      rw [if_neg f'] at hq
      exact And.intro (hp.elim (fun q => absurd q f') id) hq
    · rw [if_pos ((lt0 hp').mp (i_nle.mp f))] at hq
      exact hq
  · rw [lodV, if_neg (fun q => e ((lt0 hc).mpr q))] at hq
    rw [nt_cl (by omega)]
    exact hq
/-- the state of a cue and the speeds of its pieces, in the model -/
theorem d_stop {c : Nat} (hc : c < 8) (hn : ok (I 100 29 c) 5) (hp : ∀ j, j < mN I c → ok (mP I c 0 j) 6) (hq : Q (.inl none) (sS L (ro (ro I 100 27 (uf (I 100 27) c 5)) 100 24 (stR (mP I c 0) (I 100 24) (mN I c))) J)) : rf_C l 101 [.inr (.inr (some (8, 0))), .inl (Int32.ofNat c)] (sS L I J) Q := by
  apply rf_C.ofW
  have i8 := nt_ix (n := 8) hc (by decide)
  have hb : nn (I 100 29 c) < 5 := hn.2
  have key : ∀ m, m ≤ mN I c → rf_W l 101 9 [some (.inr (.inr (some (8, 0)))), some (.inl (Int32.ofNat c)), some (.inl (Int32.ofNat m))] [] (sS L (ro (ro I 100 27 (uf (I 100 27) c 5)) 100 24 (stR (mP I c 0) (I 100 24) m)) J) 0 0 Q := by
    have e29 : ∀ g, ro (ro I 100 27 (uf (I 100 27) c 5)) 100 24 g 100 29 = I 100 29 := fun g => by rw [ro_ne (by decide), ro_ne (by decide)]
    have e30 : ∀ g, ro (ro I 100 27 (uf (I 100 27) c 5)) 100 24 g 100 30 = I 100 30 := fun g => by rw [ro_ne (by decide), ro_ne (by decide)]
    refine lp_dn ?_ ?_
    · refine rf_goW rf_mo_101 rf_T_101 60 [9] (And.intro i8 ?_)
      rw [nt_cl (by omega)]
      refine And.intro (fun _ => hq) (fun hd => absurd ?_ hd)
      show ro (ro I 100 27 (uf (I 100 27) c 5)) 100 24 (stR (mP I c 0) (I 100 24) (mN I c)) 100 29 c ≤ _
      rw [e29]
      exact (nn_le hn.1 (by show nn _ < _; omega)).mpr (Nat.le_refl _)
    · intro m hm ih
      have hm5 : m < 4 := by have : m < nn (I 100 29 c) := hm
                             omega
      rw [← nt_succ m] at ih
      refine rf_goW rf_mo_101 rf_T_101 60 [9] (And.intro i8 ?_)
      rw [nt_cl (by omega)]
      refine And.intro (fun hd => absurd (show ro (ro I 100 27 (uf (I 100 27) c 5)) 100 24 (stR (mP I c 0) (I 100 24) m) 100 29 c ≤ Int32.ofNat m from hd) ?_) (fun _ => And.intro (ix32 hc hm5) ?_)
      · rw [e29]
        exact fun hd => absurd ((nn_le hn.1 (by omega)).mp hd) (by have : m < nn (I 100 29 c) := hm
                                                                   omega)
      rw [nn4 hc hm5]
      have op : ok (ro (ro I 100 27 (uf (I 100 27) c 5)) 100 24 (stR (mP I c 0) (I 100 24) m) 100 30 (4 * c + m)) 6 := by rw [e30]; exact hp m hm
      have es : rf_u3 (ro (ro I 100 27 (uf (I 100 27) c 5)) 100 24 (stR (mP I c 0) (I 100 24) m)) 100 24 (nn (ro (ro I 100 27 (uf (I 100 27) c 5)) 100 24 (stR (mP I c 0) (I 100 24) m) 100 30 (4 * c + m))) 0 = ro (ro I 100 27 (uf (I 100 27) c 5)) 100 24 (stR (mP I c 0) (I 100 24) (m + 1)) := by
        rw [e30, u3_ro, ro_self, ro_ro]
        rfl
      rw [← es] at ih
      exact And.intro op ih
  have k0 := key 0 (by omega)
  have e0 : ro (ro I 100 27 (uf (I 100 27) c 5)) 100 24 (stR (mP I c 0) (I 100 24) 0) = rf_u3 I 100 27 c 5 := by
    rw [stR, ← ro_ne (I := I) (b := 100) (i := 27) (b' := 100) (i' := 24) (g := uf (I 100 27) c 5) (by decide), ro_id, u3_ro]
  rw [e0] at k0
  refine rf_goW rf_mo_101 rf_T_101 20 [9] (And.intro i8 ?_)
  rw [nt_cl (by omega)]
  exact k0
end ME
