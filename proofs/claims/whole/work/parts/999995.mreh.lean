/-! the model: a rehearsal's step -/
section ND
variable {l : Launch} {Q : rf_O → rf_S → Prop} {L : Nat} {I : Nat → Nat → Nat → Int32} {J : Nat → Nat → Nat → Int64} {σ : rf_S}
/-- the first m moves of a tick; speeds by move -/
noncomputable def rm1 (P : Nat → Nat → Int32) (b : Nat → Int32) (s : (Nat → Int32) × (Nat → Int32)) : Nat → (Nat → Int32) × (Nat → Int32)
  | 0 => s
  | m + 1 => cif (mayG P b (rm1 P b s m).1 m)
      (uf (rm1 P b s m).1 (nn (P 0 m)) (adP ((rm1 P b s m).1 (nn (P 0 m))) (P 1 m) (adU ((rm1 P b s m).2 m) (P 2 m) (ab (P 1 m - (rm1 P b s m).1 (nn (P 0 m)))) 1)), uf (rm1 P b s m).2 m (adU ((rm1 P b s m).2 m) (P 2 m) (ab (P 1 m - (rm1 P b s m).1 (nn (P 0 m)))) 1))
      (rm1 P b s m)
noncomputable def rmN (P : Nat → Nat → Int32) (b : Nat → Int32) (n : Nat) (s : (Nat → Int32) × (Nat → Int32)) : Nat → (Nat → Int32) × (Nat → Int32)
  | 0 => s
  | k + 1 => rm1 P b (rmN P b n s k) n
def mG (I : Nat → Nat → Nat → Int32) (c : Nat) : Nat → Int32 := fun j => I 100 23 (nn (mP I c 0 j))
def rh2 (I : Nat → Nat → Nat → Int32) (s : (Nat → Int32) × (Nat → Int32)) : Nat → Nat → Nat → Int32 := ro (ro I 100 38 s.1) 100 39 s.2
theorem rh2_id : rh2 I (I 100 38, I 100 39) = I := by
  show ro (ro I 100 38 (I 100 38)) 100 39 (I 100 39) = I
  rw [ro_id, ro_id]
theorem rh2_2 {s s' : (Nat → Int32) × (Nat → Int32)} : rh2 (rh2 I s) s' = rh2 I s' := by
  unfold rh2
  rw [ro_comm (I := ro I 100 38 s.1) (by decide), ro_ro, ro_ro]
theorem rh2_b {b : Nat} {s : (Nat → Int32) × (Nat → Int32)} (h : ¬ b = 100) : rh2 I s b = I b := by rw [rh2, ro_b h, ro_b h]
theorem rh2_a {s : (Nat → Int32) × (Nat → Int32)} : rh2 I s 100 38 = s.1 := by rw [rh2, ro_ne (by decide), ro_self]
theorem rh2_v {s : (Nat → Int32) × (Nat → Int32)} : rh2 I s 100 39 = s.2 := ro_self
theorem rh2_o {k : Nat} {s : (Nat → Int32) × (Nat → Int32)} (h1 : ¬ k = 38) (h2 : ¬ k = 39) : rh2 I s 100 k = I 100 k := by rw [rh2, ro_ne (by omega), ro_ne (by omega)]
theorem rb_body {c m : Nat} {p n x6 : Int32} (hc : c < 8) (hm : m < 4) (hp : ok (mP I c 0 m) 6) (ht : ok (mP I c 2 m) 13) (ha : mP I c 3 m = -1 ∨ (ok (mP I c 3 m) 4 ∧ ok (mP I c 0 (nn (mP I c 3 m))) 6)) (hv : ok (I 100 39 m) 13) (hg1 : pl (mP I c 1 m)) (hg2 : pl (I 100 38 (nn (mP I c 0 m))))
    (hq : ∀ s, s = cif (mayG (mP I c) (mG I c) (I 100 38) m) (uf (I 100 38) (nn (mP I c 0 m)) (adP (I 100 38 (nn (mP I c 0 m))) (mP I c 1 m) (adU (I 100 39 m) (mP I c 2 m) (ab (mP I c 1 m - I 100 38 (nn (mP I c 0 m)))) 1)), uf (I 100 39) m (adU (I 100 39 m) (mP I c 2 m) (ab (mP I c 1 m - I 100 38 (nn (mP I c 0 m)))) 1)) (I 100 38, I 100 39) → rf_W l 162 380 [some (.inr (.inr (some (8, 0)))), some (.inl (Int32.ofNat c)), some (.inl p), some (.inl n), none, some (.inr (.inr (some (100, 39)))), some (.inl x6), some (.inl (Int32.ofNat m)), none, none, none, none, none] [] (sS L (rh2 I s) J) 0 0 Q) :
    rf_W l 162 177 [some (.inr (.inr (some (8, 0)))), some (.inl (Int32.ofNat c)), some (.inl p), some (.inl n), none, some (.inr (.inr (some (100, 39)))), some (.inl x6), some (.inl (Int32.ofNat m)), none, none, none, none, none] [] (sS L I J) 0 0 Q := by
  have i32 := ix32 hc hm
  have n32 := nn4 hc hm
  have i4 := nt_ix (n := 4) hm (by decide)
  have g339 : mayG (mP I c) (mG I c) (I 100 38) m → ∀ u, u = adU (I 100 39 m) (mP I c 2 m) (ab (mP I c 1 m - I 100 38 (nn (mP I c 0 m)))) 1 → rf_W l 162 339 [some (.inr (.inr (some (8, 0)))), some (.inl (Int32.ofNat c)), some (.inl p), some (.inl n), none, some (.inr (.inr (some (100, 39)))), some (.inl x6), some (.inl (Int32.ofNat m)), some (.inl (4 * Int32.ofNat c + Int32.ofNat m)), some (.inl (mP I c 0 m)), none, none, none] [] (sS L (ro I 100 39 (uf (I 100 39) m u)) J) 0 0 Q := by
    intro hz u hu
    have hq' := hq _ (cif_t hz).symm
    simp only [← hu] at hq'
    have e38 : ro I 100 39 (uf (I 100 39) m u) 100 38 = I 100 38 := ro_ne (by decide)
    have e31 : ro I 100 39 (uf (I 100 39) m u) 100 31 (4 * c + m) = mP I c 1 m := by rw [ro_ne (by decide)]; rfl
    have e39 : ro I 100 39 (uf (I 100 39) m u) 100 39 m = u := by rw [ro_self]; simp [uf]
    have fin : ∀ w, w = adP (I 100 38 (nn (mP I c 0 m))) (mP I c 1 m) u → rf_W l 162 380 [some (.inr (.inr (some (8, 0)))), some (.inl (Int32.ofNat c)), some (.inl p), some (.inl n), none, some (.inr (.inr (some (100, 39)))), some (.inl x6), some (.inl (Int32.ofNat m)), some (.inl (4 * Int32.ofNat c + Int32.ofNat m)), some (.inl (mP I c 0 m)), none, none, none] [] (sS L (rf_u3 (ro I 100 39 (uf (I 100 39) m u)) 100 38 (nn (mP I c 0 m)) w) J) 0 0 Q := by
      rintro w rfl
      rw [u3_ro, e38, ro_comm (by decide)]
      exact fgt hq' (by repeat (first | exact True.intro | refine And.intro rfl ?_))
    refine rf_goW rf_mo_162 rf_T_162 60 [380] (And.intro hp (And.intro i32 (And.intro hp ?_)))
    rw [n32]
    refine And.intro (fun (f : ro I 100 39 (uf (I 100 39) m u) 100 31 (4 * c + m) ≤ ro I 100 39 (uf (I 100 39) m u) 100 38 (nn (mP I c 0 m))) => And.intro i4 (And.intro hp ?_)) (fun (f : ¬ ro I 100 39 (uf (I 100 39) m u) 100 31 (4 * c + m) ≤ ro I 100 39 (uf (I 100 39) m u) 100 38 (nn (mP I c 0 m))) => And.intro i4 (And.intro hp ?_))
    · rw [e31, e38] at f
      rw [nt_cl (by omega)]
      refine fin _ ?_
      show ro I 100 39 (uf (I 100 39) m u) 100 38 (nn (mP I c 0 m)) + -(ro I 100 39 (uf (I 100 39) m u) 100 39 m) = _
      rw [e38, e39, adP]
      by_cases q : mP I c 1 m < I 100 38 (nn (mP I c 0 m))
      · rw [if_pos q]
      · have q' : mP I c 1 m = I 100 38 (nn (mP I c 0 m)) := Int32.le_antisymm f (i_nlt.mp q)
        have : u = 0 := by
          rw [hu, q', Int32.sub_self]
          exact adU_0 hv ht (fun z => absurd z (by decide))
        rw [if_neg q, this]
        rfl
    · rw [e31, e38] at f
      rw [nt_cl (by omega)]
      refine fin _ ?_
      show ro I 100 39 (uf (I 100 39) m u) 100 38 (nn (mP I c 0 m)) + (ro I 100 39 (uf (I 100 39) m u) 100 39 m) = _
      rw [e38, e39, adP, if_neg (fun q => f (Int32.le_of_lt q))]
  have g314 : mayG (mP I c) (mG I c) (I 100 38) m → ∀ x, x = ab (mP I c 1 m - I 100 38 (nn (mP I c 0 m))) → rf_W l 162 314 [some (.inr (.inr (some (8, 0)))), some (.inl (Int32.ofNat c)), some (.inl p), some (.inl n), none, some (.inr (.inr (some (100, 39)))), some (.inl x6), some (.inl (Int32.ofNat m)), some (.inl (4 * Int32.ofNat c + Int32.ofNat m)), some (.inl (mP I c 0 m)), none, none, none] [.inl x] (sS L I J) 0 0 Q := by
    rintro hz _ rfl
    refine rf_goW rf_mo_162 rf_T_162 60 [339] (And.intro i4 (And.intro i32 ?_))
    rw [n32, nt_cl (by omega)]
    refine And.intro ⟨by decide, by decide⟩ (d_faster hv ht (ab_0 hg2 hg1) (And.intro i4 ?_))
    rw [nt_cl (by omega)]
    have q := g339 hz _ rfl
    rw [← u3_ro] at q
    exact fgt q (by repeat (first | exact True.intro | refine And.intro rfl ?_))
  have g264 : mayG (mP I c) (mG I c) (I 100 38) m → rf_W l 162 264 [some (.inr (.inr (some (8, 0)))), some (.inl (Int32.ofNat c)), some (.inl p), some (.inl n), none, some (.inr (.inr (some (100, 39)))), some (.inl x6), some (.inl (Int32.ofNat m)), some (.inl (4 * Int32.ofNat c + Int32.ofNat m)), some (.inl (mP I c 0 m)), none, none, none] [] (sS L I J) 0 0 Q := by
    intro hz
    refine rf_goW rf_mo_162 rf_T_162 60 [314] (And.intro i32 (And.intro hp ?_))
    rw [n32]
    refine And.intro (fun (f : mP I c 1 m ≤ I 100 38 (nn (mP I c 0 m))) => And.intro hp (And.intro i32 ?_)) (fun (f : ¬ mP I c 1 m ≤ I 100 38 (nn (mP I c 0 m))) => And.intro i32 (And.intro hp ?_))
    · rw [n32]
      exact g314 hz _ (ab_le hg2 hg1 f).symm
    · rw [n32]
      exact g314 hz _ (ab_gt hg2 hg1 f).symm
  have g380 : ¬ mayG (mP I c) (mG I c) (I 100 38) m → rf_W l 162 380 [some (.inr (.inr (some (8, 0)))), some (.inl (Int32.ofNat c)), some (.inl p), some (.inl n), none, some (.inr (.inr (some (100, 39)))), some (.inl x6), some (.inl (Int32.ofNat m)), none, none, none, none, none] [] (sS L I J) 0 0 Q := by
    intro hz
    have q := hq _ (cif_f hz).symm
    rw [rh2_id] at q
    exact q
  refine rf_goW rf_mo_162 rf_T_162 60 [264, 380, 212, 208] (And.intro i32 (And.intro i32 ?_))
  rw [n32]
  refine And.intro (fun (e : 0 ≤ mP I c 3 m) => ?_) (fun (e : ¬ 0 ≤ mP I c 3 m) => ?_)
  · have a3 : ¬ mP I c 3 m = -1 := fun q => by rw [q] at e; exact absurd e (by decide)
    obtain ⟨o1, o2⟩ := ha.elim (fun q => absurd q a3) id
    have g212 : rf_W l 162 212 [some (.inr (.inr (some (8, 0)))), some (.inl (Int32.ofNat c)), some (.inl p), some (.inl n), none, some (.inr (.inr (some (100, 39)))), some (.inl x6), some (.inl (Int32.ofNat m)), some (.inl (4 * Int32.ofNat c + Int32.ofNat m)), some (.inl (mP I c 0 m)), some (.inl (mP I c 3 m)), none, none] [] (sS L I J) 0 0 Q := by
      refine rf_goW rf_mo_162 rf_T_162 60 [264, 380] (And.intro (ixo hc o1) (And.intro (fun f => absurd f (i_nlt.mpr e)) (fun _ => ?_)))
      rw [nno hc o1]
      refine And.intro o2 (And.intro o2 (And.intro i32 ?_))
      rw [n32]
      have hk : ∀ x, x = Int32.ofNat (nn (mP I c 3 m)) → ∀ Q' : rf_O → rf_S → Prop, (rchd (mP I c 1 (nn (mP I c 3 m))) (mG I c (nn (mP I c 3 m))) (I 100 38 (nn (mP I c 0 (nn (mP I c 3 m))))) (mP I c 4 m) → Q' (.inl (some (.inl 1))) (sS L I J)) → (¬ rchd (mP I c 1 (nn (mP I c 3 m))) (mG I c (nn (mP I c 3 m))) (I 100 38 (nn (mP I c 0 (nn (mP I c 3 m))))) (mP I c 4 m) → Q' (.inl (some (.inl 0))) (sS L I J)) → rf_C l 86 [.inr (.inr (some (8, 0))), .inl (Int32.ofNat c), .inl x, .inl (mG I c (nn (mP I c 3 m))), .inl (I 100 38 (nn (mP I c 0 (nn (mP I c 3 m))))), .inl (mP I c 4 m)] (sS L I J) Q' := by
        rintro _ rfl Q' q1 q2
        exact d_hasReached hc o1.2 q1 q2
      exact And.intro ⟨by decide, by decide⟩ (hk _ (nn_of o1.1).symm _ (fun r => br_ne1 (fgt (g264 (Or.inr r)) (by repeat (first | exact True.intro | refine And.intro rfl ?_)))) (fun r => br_ne0 (fgt (g380 fun q => q.elim a3 r) (by repeat (first | exact True.intro | refine And.intro rfl ?_)))))
    exact g212
  · have a3 : mP I c 3 m = -1 := ha.elim id fun q => absurd q.1.1 e
    have g208 : rf_W l 162 208 [some (.inr (.inr (some (8, 0)))), some (.inl (Int32.ofNat c)), some (.inl p), some (.inl n), none, some (.inr (.inr (some (100, 39)))), some (.inl x6), some (.inl (Int32.ofNat m)), some (.inl (4 * Int32.ofNat c + Int32.ofNat m)), some (.inl (mP I c 0 m)), some (.inl (mP I c 3 m)), none, none] [] (sS L I J) 0 0 Q := by
      refine rf_goW rf_mo_162 rf_T_162 60 [264] (And.intro (fun _ => fgt (g264 (Or.inl a3)) (by repeat (first | exact True.intro | refine And.intro rfl ?_))) (fun f => absurd (i_nle.mp e) f))
    exact g208
/-- what the step keeps -/
theorem rm1_ok {P : Nat → Nat → Int32} {b : Nat → Int32} {s : (Nat → Int32) × (Nat → Int32)} {n : Nat} (hP : ∀ m, m < n → ok (P 0 m) 6 ∧ ok (P 2 m) 13 ∧ pl (P 1 m)) (h1 : ∀ p, p < 6 → pl (s.1 p)) (h2 : ∀ j, ok (s.2 j) 13 ∨ n ≤ j) : ∀ m, m ≤ n → (∀ p, p < 6 → pl ((rm1 P b s m).1 p)) ∧ ∀ j, ok ((rm1 P b s m).2 j) 13 ∨ n ≤ j
  | 0, _ => ⟨h1, h2⟩
  | m + 1, hm => by
    obtain ⟨i1, i2⟩ := rm1_ok (b := b) hP h1 h2 m (by omega)
    obtain ⟨p0, p2, p1⟩ := hP m (by omega)
    rw [rm1]
    by_cases c : mayG P b (rm1 P b s m).1 m
    · rw [cif_t c]
      have vo : ok ((rm1 P b s m).2 m) 13 := (i2 m).elim id fun q => absurd q (by omega)
      have pa := i1 (nn (P 0 m)) p0.2
      obtain ⟨k, e, k1, k2, k3⟩ := adv_k (h := 1) pa p1 vo p2 (fun z => absurd z (by decide))
      rw [e]
      refine ⟨fun p hp => ?_, fun j => ?_⟩
      · show pl (uf _ _ _ p)
        unfold uf
        split
        · exact (adP_k pa p1 k3).1
        · exact i1 p hp
      · show ok (uf _ _ _ j) 13 ∨ _
        unfold uf
        split
        · exact Or.inl (ok_nat k1 (by decide))
        · exact i2 j
    · rw [cif_f c]
      exact ⟨i1, i2⟩
end ND
