/-! the masters: rows of places and speeds -/
noncomputable def cif {α : Type} (p : Prop) (a b : α) : α := @ite α p (Classical.propDecidable p) a b
theorem cif_t {α : Type} {p : Prop} {a b : α} (h : p) : cif p a b = a := if_pos h
theorem cif_f {α : Type} {p : Prop} {a b : α} (h : ¬ p) : cif p a b = b := if_neg h
theorem nn_of {x : Int32} (h : 0 ≤ x) : Int32.ofNat (nn x) = x := by
  rw [Int32.le_iff_toInt_le] at h
  have h0 : 0 ≤ x.toInt := h
  have h1 := Int32.toInt_lt x
  rw [← Int32.toInt_inj, nn, Int32.toInt_ofNat_of_lt (by rw [Int32.toNatClampNeg]; omega), Int32.toNatClampNeg]
  omega
theorem nn_nat {i : Nat} (h : i < 2147483648) : nn (Int32.ofNat i) = i := nt_cl h
/-- the fastest speed up to n that still comes to stand in x units -/
def hsN : Nat → Int32 → Nat
  | 0, _ => 0
  | n + 1, x => if x < Int32.ofNat ((n + 1) * (n + 2) / 2) then hsN n x else n + 1
theorem hs_tri : ∀ n, n < 14 → Int32.ofNat n * (Int32.ofNat n + 1) / 2 = Int32.ofNat (n * (n + 1) / 2) := by decide
theorem hs_pre : ∀ n, n < 14 → Int32.ofNat (n + 1) + (-1) = Int32.ofNat n := by decide
theorem hs_pos : ∀ n, n < 14 → ¬ Int32.ofNat (n + 1) ≤ 0 := by decide
theorem hs_min : ∀ a, a < 13 → ∀ t, t < 13 → (if Int32.ofNat t < Int32.ofNat a + 1 then Int32.ofNat t else Int32.ofNat a + 1) = Int32.ofNat (min (a + 1) t) := by decide
section LM
variable {l : Launch} {Q : rf_O → rf_S → Prop} {L : Nat} {I : Nat → Nat → Nat → Int32} {J : Nat → Nat → Nat → Int64} {σ : rf_S}
theorem c_heldSpeed {v t x : Int32} (hv : ok v 13) (ht : ok t 13) (hq : Q (.inl (some (.inl (Int32.ofNat (hsN (min (nn v + 1) (nn t)) x))))) σ) : rf_C l 105 [.inl v, .inl t, .inl x] σ Q := by
  have hv2 : nn v < 13 := hv.2
  have ht2 : nn t < 13 := ht.2
  rw [← nn_of hv.1, ← nn_of ht.1]
  apply rf_C.ofW
  refine rf_goW rf_mo_105 rf_T_105 20 [8] (And.intro ⟨by decide, by decide⟩ (c_min ?_))
  rw [hs_min _ hv2 _ ht2]
  have key : ∀ n, n < 14 → (hsN (min (nn v + 1) (nn t)) x = hsN n x) → rf_W l 105 8 [some (.inl (Int32.ofNat (nn v))), some (.inl (Int32.ofNat (nn t))), some (.inl x), some (.inl (Int32.ofNat n))] [] σ 0 0 Q := by
    intro n
    induction n with
    | zero =>
      intro _ he
      rw [he] at hq
      exact rf_goW rf_mo_105 rf_T_105 20 [8] (And.intro (fun _ => hq) (fun hc => absurd (Int32.le_refl _) hc))
    | succ n ih =>
      intro hn he
      refine rf_goW rf_mo_105 rf_T_105 20 [8] (And.intro (fun hc => absurd hc (hs_pos n (by omega))) (fun _ => And.intro (by decide) ?_))
      rw [hs_tri (n + 1) hn]
      rw [hsN] at he
      refine And.intro (fun hc => ?_) (fun hc => ?_)
      · rw [if_neg (i_nlt.mpr hc)] at he
        rw [he] at hq
        exact hq
      · rw [if_pos (i_nle.mp hc)] at he
        have := ih (by omega) he
        rw [← hs_pre n (by omega)] at this
        exact this
  exact key _ (by omega) rfl
/-- the rows of places and speeds of the masters i anew -/
def ms2 (I : Nat → Nat → Nat → Int32) (i : Nat) (a v : Nat → Int32) : Nat → Nat → Nat → Int32 := ro (ro I 100 (3 * i + 1) v) 100 (3 * i) a
theorem ro_comm {b i b' i' : Nat} {g g' : Nat → Int32} (h : ¬ (b = b' ∧ i = i')) : ro (ro I b i g) b' i' g' = ro (ro I b' i' g') b i g := by
  funext x y f
  by_cases h1 : x = b ∧ y = i
  · have h2 : ¬ (x = b' ∧ y = i') := fun q => h ⟨h1.1.symm.trans q.1, h1.2.symm.trans q.2⟩
    simp [ro, h1, h]
  · by_cases h2 : x = b' ∧ y = i'
    · simp only [ro, if_neg h1, if_pos h2]
    · simp only [ro, if_neg h1, if_neg h2]
theorem ms2_b {i b : Nat} {a v : Nat → Int32} (h : ¬ b = 100) : ms2 I i a v b = I b := by
  funext y f
  simp [ms2, ro, h]
theorem ms2_a {i : Nat} {a v : Nat → Int32} : ms2 I i a v 100 (3 * i) = a := ro_self
theorem ms2_v {i : Nat} {a v : Nat → Int32} : ms2 I i a v 100 (3 * i + 1) = v := by rw [ms2, ro_ne (by omega), ro_self]
theorem ms2_o {i k : Nat} {a v : Nat → Int32} (h1 : ¬ k = 3 * i) (h2 : ¬ k = 3 * i + 1) : ms2 I i a v 100 k = I 100 k := by rw [ms2, ro_ne (by omega), ro_ne (by omega)]
theorem ms2_2 {i : Nat} {a v a' v' : Nat → Int32} : ms2 (ms2 I i a v) i a' v' = ms2 I i a' v' := by
  unfold ms2
  rw [ro_comm (I := ro I 100 (3 * i + 1) v) (by omega), ro_ro, ro_ro]
theorem ms2_id {i : Nat} : ms2 I i (I 100 (3 * i)) (I 100 (3 * i + 1)) = I := by unfold ms2; rw [ro_id, ro_id]
theorem uf_id {g : Nat → Int32} {j : Nat} : uf g j (g j) = g := by
  funext f
  by_cases h : f = j <;> simp [uf, h]
theorem c_putAt {i : Nat} {p x : Int32} (hi : i < 2) (hp : ok p 6) (hq : Q (.inl none) (sS L (ms2 I i (uf (I 100 (3 * i)) (nn p) x) (uf (I 100 (3 * i + 1)) (nn p) 0)) J)) : rf_C l 23 [.inr (.inr (some (4, i))), .inl p, .inl x] (sS L I J) Q := by
  apply rf_C.ofW
  refine rf_goW rf_mo_23 rf_T_23 20 [] (And.intro (ms_ix hi (by decide) hp) (And.intro (ms_ix hi (by decide) hp) ?_))
  refine eqS (Q := Q) ?_ hq
  show sS L (rf_u3 (rf_u3 I 100 (3 * i) (nn p) x) 100 (3 * i + 1) (nn p) 0) J = _
  rw [u3_ro, u3_ro, ro_ne (by omega), ro_comm (by omega)]
  rfl
/-- one move of a cue, a tick on: place and speed -/
def adU (v t x h : Int32) : Int32 := if h = 0 then mx 0 (v - 1) else Int32.ofNat (hsN (min (nn v + 1) (nn t)) x)
def adP (a g u : Int32) : Int32 := a + if g < a then -u else u
def adv1 (s : (Nat → Int32) × (Nat → Int32)) (p : Nat) (g t h : Int32) : (Nat → Int32) × (Nat → Int32) :=
  (uf s.1 p (adP (s.1 p) g (adU (s.2 p) t (ab (g - s.1 p)) h)), uf s.2 p (adU (s.2 p) t (ab (g - s.1 p)) h))
theorem c_advanceOne {i m : Nat} {h : Int32} (hi : i < 2) (hp : ok (I 5 m 0) 6) (hv : ok (I 100 (3 * i + 1) (nn (I 5 m 0))) 13) (ht : ok (I 5 m 2) 13)
    (hq : ∀ s, s = adv1 (I 100 (3 * i), I 100 (3 * i + 1)) (nn (I 5 m 0)) (I 5 m 1) (I 5 m 2) h → Q (.inl none) (sS L (ms2 I i s.1 s.2) J)) : rf_C l 106 [.inr (.inr (some (4, i))), .inr (.inr (some (5, m))), .inl h] (sS L I J) Q := by
  apply rf_C.ofW
  have fin : ∀ u, u = adU (I 100 (3 * i + 1) (nn (I 5 m 0))) (I 5 m 2) (ab (I 5 m 1 - I 100 (3 * i) (nn (I 5 m 0)))) h → rf_W l 106 55 [some (.inr (.inr (some (4, i)))), some (.inr (.inr (some (5, m)))), some (.inl h), some (.inl (I 5 m 0)), some (.inl (ab (I 5 m 1 - I 100 (3 * i) (nn (I 5 m 0))))), none] [.inl u] (sS L I J) 0 0 Q := by
    intro u hu
    have rd : ∀ q, rf_u3 I 100 (3 * i + 1) (nn (I 5 m 0)) u 100 (3 * i) q = I 100 (3 * i) q := fun q => by
      have : ¬ (3 * i = 3 * i + 1) := by omega
      simp [rf_u3]
    have hq' := hq _ rfl
    rw [adv1] at hq'
    simp only [← hu] at hq'
    refine rf_goW rf_mo_106 rf_T_106 60 [] (And.intro (ms_ix hi (by decide) hp) (And.intro (ms_ix hi (by decide) hp) (And.intro (ms_ix hi (by decide) hp) (And.intro (fun hc => And.intro (ms_ix hi (by decide) hp) ?_) (fun hc => And.intro (ms_ix hi (by decide) hp) ?_)))))
    · have hc' : ¬ I 5 m 1 < I 100 (3 * i) (nn (I 5 m 0)) := i_nlt.mpr (by rw [← rd]; exact hc)
      rw [adP, if_neg hc'] at hq'
      refine eqS (Q := Q) ?_ hq'
      show sS L (rf_u3 (rf_u3 I 100 (3 * i + 1) (nn (I 5 m 0)) u) 100 (3 * i) (nn (I 5 m 0)) (rf_u3 I 100 (3 * i + 1) (nn (I 5 m 0)) u 100 (3 * i) (nn (I 5 m 0)) + u)) J = _
      rw [rd, u3_ro, u3_ro, ro_ne (by omega)]
      rfl
    · have hc' : I 5 m 1 < I 100 (3 * i) (nn (I 5 m 0)) := i_nle.mp (by rw [← rd]; exact hc)
      rw [adP, if_pos hc'] at hq'
      refine eqS (Q := Q) ?_ hq'
      show sS L (rf_u3 (rf_u3 I 100 (3 * i + 1) (nn (I 5 m 0)) u) 100 (3 * i) (nn (I 5 m 0)) (rf_u3 I 100 (3 * i + 1) (nn (I 5 m 0)) u 100 (3 * i) (nn (I 5 m 0)) + -u)) J = _
      rw [rd, u3_ro, u3_ro, ro_ne (by omega)]
      rfl
  refine rf_goW rf_mo_106 rf_T_106 60 [55] (And.intro (ms_ix hi (by decide) hp) (And.intro ⟨by decide, by decide⟩ (c_abs (And.intro (fun hc => ?_) (fun hc => ?_)))))
  · refine And.intro (ms_ix hi (by decide) hp) (And.intro ⟨by decide, by decide⟩ (c_max (fin _ ?_)))
    rw [adU, if_pos hc]
    rfl
  · refine And.intro (ms_ix hi (by decide) hp) (And.intro ⟨by decide, by decide⟩ (c_heldSpeed hv ht (fin _ ?_)))
    rw [adU, if_neg hc]
    rfl
/-- a cue's plan, by move -/
def pP (I : Nat → Nat → Nat → Int32) (c f : Nat) : Nat → Int32 := fun m => I 5 (4 * c + m) f
/-- the move m may go: b are the places where the moves began -/
def mayG (P : Nat → Nat → Int32) (b : Nat → Int32) (a : Nat → Int32) (m : Nat) : Prop := P 3 m = -1 ∨ rchd (P 1 (nn (P 3 m))) (b (nn (P 3 m))) (a (nn (P 0 (nn (P 3 m))))) (P 4 m)
/-- a tick of the first m moves -/
noncomputable def advR (P : Nat → Nat → Int32) (b : Nat → Int32) (h : Int32) (s : (Nat → Int32) × (Nat → Int32)) : Nat → (Nat → Int32) × (Nat → Int32)
  | 0 => s
  | m + 1 => cif (mayG P b (advR P b h s m).1 m) (adv1 (advR P b h s m) (nn (P 0 m)) (P 1 m) (P 2 m) h) (advR P b h s m)
/-- where the moves of a cue began, by the row of pieces -/
def bgR (I : Nat → Nat → Nat → Int32) (i c : Nat) : Nat → Int32 := fun m => I 100 (3 * i + 2) (nn (I 5 (4 * c + m) 0))
/-- what is asked of a plan: pieces are pieces, tops tops, an earlier move is one -/
def plOk (I : Nat → Nat → Nat → Int32) (c : Nat) : Prop := ok (I 1 c 1) 5 ∧ ∀ m, m < nn (I 1 c 1) → ok (I 5 (4 * c + m) 0) 6 ∧ ok (I 5 (4 * c + m) 2) 13 ∧ (¬ I 5 (4 * c + m) 3 = -1 → ok (I 5 (4 * c + m) 3) m)
theorem hsN_le : ∀ (n : Nat) (x : Int32), hsN n x ≤ n
  | 0, _ => Nat.le_refl _
  | n + 1, x => by
    rw [hsN]
    split
    · exact Nat.le_succ_of_le (hsN_le n x)
    · exact Nat.le_refl _
theorem mx_pre : ∀ a, a < 13 → ok (mx 0 (Int32.ofNat a - 1)) 13 := by
  intro a ha
  have : a = 0 ∨ a = 1 ∨ a = 2 ∨ a = 3 ∨ a = 4 ∨ a = 5 ∨ a = 6 ∨ a = 7 ∨ a = 8 ∨ a = 9 ∨ a = 10 ∨ a = 11 ∨ a = 12 := by omega
  rcases this with rfl | rfl | rfl | rfl | rfl | rfl | rfl | rfl | rfl | rfl | rfl | rfl | rfl <;> exact ⟨by decide, by decide⟩
theorem ok_nat {i n : Nat} (h : i < n) (hn : n < 2147483648) : ok (Int32.ofNat i) n := nt_ix h (by omega)
theorem adU_ok {v t x h : Int32} (hv : ok v 13) (ht : ok t 13) : ok (adU v t x h) 13 := by
  have ht2 : nn t < 13 := ht.2
  unfold adU
  split
  · have := mx_pre (nn v) hv.2
    rw [nn_of hv.1] at this
    exact this
  · exact ok_nat (Nat.lt_of_le_of_lt (hsN_le _ _) (by omega)) (by decide)
theorem advR_v {P : Nat → Nat → Int32} {b : Nat → Int32} {h : Int32} {s : (Nat → Int32) × (Nat → Int32)} {n : Nat} (hv : ∀ p, p < 6 → ok (s.2 p) 13) (hP : ∀ m, m < n → ok (P 0 m) 6 ∧ ok (P 2 m) 13) : ∀ m, m ≤ n → ∀ p, p < 6 → ok ((advR P b h s m).2 p) 13
  | 0, _, p, hp => hv p hp
  | m + 1, hm, p, hp => by
    have ih := advR_v (b := b) (h := h) hv hP m (by omega)
    by_cases hc : mayG P b (advR P b h s m).1 m
    · rw [advR, cif_t hc, adv1]
      show ok (uf _ _ _ p) 13
      unfold uf
      split
      · exact adU_ok (ih _ (hP m (by omega)).1.2) (hP m (by omega)).2
      · exact ih p hp
    · rw [advR, cif_f hc]
      exact ih p hp
theorem c_advance {i c : Nat} {h : Int32} (hi : i < 2) (hc : plOk I c) (hv : ∀ p, p < 6 → ok (I 100 (3 * i + 1) p) 13)
    (hq : ∀ s, s = advR (pP I c) (bgR I i c) h (I 100 (3 * i), I 100 (3 * i + 1)) (nn (I 1 c 1)) → Q (.inl none) (sS L (ms2 I i s.1 s.2) J)) : rf_C l 107 [.inr (.inr (some (4, i))), .inr (.inr (some (1, c))), .inl h] (sS L I J) Q := by
  apply rf_C.ofW
  refine rf_goW rf_mo_107 rf_T_107 3 [2] ?_
  have hb : nn (I 1 c 1) < 5 := hc.1.2
  have key : ∀ m, m ≤ nn (I 1 c 1) → ∀ s, s = advR (pP I c) (bgR I i c) h (I 100 (3 * i), I 100 (3 * i + 1)) m → rf_W l 107 2 [some (.inr (.inr (some (4, i)))), some (.inr (.inr (some (1, c)))), some (.inl h), some (.inl (Int32.ofNat m))] [] (sS L (ms2 I i s.1 s.2) J) 0 0 Q := by
    refine lp_dn ?_ ?_
    · intro s hs
      have e : (ms2 I i s.1 s.2) 1 c 1 = I 1 c 1 := by rw [ms2_b (by decide)]
      refine rf_goW rf_mo_107 rf_T_107 60 [2] (And.intro (fun _ => hq s hs) (fun hd => absurd ?_ hd))
      show (ms2 I i s.1 s.2) 1 c 1 ≤ _
      rw [e]
      exact (nn_le hc.1.1 (by omega)).mpr (Nat.le_refl _)
    · intro m hm ih s hs
      have e : (ms2 I i s.1 s.2) 1 c 1 = I 1 c 1 := by rw [ms2_b (by decide)]
      have e5 : (ms2 I i s.1 s.2) 5 = I 5 := ms2_b (by decide)
      have ea : (ms2 I i s.1 s.2) 100 (3 * i) = s.1 := ms2_a
      have ev : (ms2 I i s.1 s.2) 100 (3 * i + 1) = s.2 := ms2_v
      have eb : (ms2 I i s.1 s.2) 100 (3 * i + 2) = I 100 (3 * i + 2) := ms2_o (by omega) (by omega)
      obtain ⟨hm0, hm2, hm3⟩ := hc.2 m hm
      rw [← nt_succ m] at ih
      refine rf_goW rf_mo_107 rf_T_107 60 [2] (And.intro (fun hd => absurd (show (ms2 I i s.1 s.2) 1 c 1 ≤ Int32.ofNat m from hd) ?_) (fun _ => And.intro (nt_ix (n := 4) (by omega) (by decide)) ?_))
      · rw [e]
        exact fun hd => absurd ((nn_le hc.1.1 (by omega)).mp hd) (by omega)
      rw [nt_cl (by omega)]
      have wiff : wts (ms2 I i s.1 s.2) i c (4 * c + m) ↔ ¬ mayG (pP I c) (bgR I i c) s.1 m := by
        unfold wts mayG
        rw [e5, ea, eb]
        exact ⟨fun q r => r.elim q.1 q.2, fun q => ⟨fun r => q (Or.inl r), fun r => q (Or.inr r)⟩⟩
      have hs2 : ∀ p, p < 6 → ok (s.2 p) 13 := hs ▸ advR_v (P := pP I c) (b := bgR I i c) (h := h) (s := (I 100 (3 * i), I 100 (3 * i + 1))) (n := nn (I 1 c 1)) hv (fun j hj => ⟨(hc.2 j hj).1, (hc.2 j hj).2.1⟩) m (by omega)
      refine And.intro ⟨by decide, by decide⟩ (c_waits hi ?_ (fun hw => br_ne1 ?_) (fun hw => br_ne0 ?_))
      · rw [e5]
        intro hz
        have q := hm3 hz
        have q2 : nn (I 5 (4 * c + m) 3) < m := q.2
        exact ⟨⟨q.1, by show nn _ < 4; omega⟩, (hc.2 (nn (I 5 (4 * c + m) 3)) (by omega)).1⟩
      · refine ih s ?_
        rw [advR, cif_f (by rw [← hs]; exact wiff.mp hw)]
        exact hs
      · refine And.intro (nt_ix (n := 4) (by omega) (by decide)) ?_
        rw [nt_cl (by omega)]
        refine And.intro ⟨by decide, by decide⟩ (c_advanceOne hi (by rw [e5]; exact hm0) (by rw [e5, ev]; exact hs2 _ hm0.2) (by rw [e5]; exact hm2) (fun s' hs' => ?_))
        rw [e5, ea, ev] at hs'
        rw [ms2_2]
        refine ih s' ?_
        rw [advR, cif_t (by rw [← hs]; exact Classical.byContradiction fun q => hw (wiff.mpr q)), ← hs]
        exact hs'
  have k0 := key 0 (by omega) _ rfl
  rw [advR, ms2_id] at k0
  exact k0
/-- the first m moves stand -/
def stR (P v : Nat → Int32) : Nat → Nat → Int32
  | 0 => v
  | m + 1 => uf (stR P v m) (nn (P m)) 0
/-- one row of ints anew -/
theorem ro_b {b i b' : Nat} {g : Nat → Int32} (h : ¬ b' = b) : ro I b i g b' = I b' := by
  funext y f
  simp [ro, h]
theorem c_stand {i c : Nat} (hi : i < 2) (hn : ok (I 1 c 1) 5) (hp : ∀ j, j < nn (I 1 c 1) → ok (I 5 (4 * c + j) 0) 6)
    (hq : Q (.inl none) (sS L (ro I 100 (3 * i + 1) (stR (pP I c 0) (I 100 (3 * i + 1)) (nn (I 1 c 1)))) J)) : rf_C l 97 [.inr (.inr (some (4, i))), .inr (.inr (some (1, c)))] (sS L I J) Q := by
  apply rf_C.ofW
  refine rf_goW rf_mo_97 rf_T_97 3 [2] ?_
  have hb : nn (I 1 c 1) < 5 := hn.2
  have key : ∀ m, m ≤ nn (I 1 c 1) → rf_W l 97 2 [some (.inr (.inr (some (4, i)))), some (.inr (.inr (some (1, c)))), some (.inl (Int32.ofNat m))] [] (sS L (ro I 100 (3 * i + 1) (stR (pP I c 0) (I 100 (3 * i + 1)) m)) J) 0 0 Q := by
    refine lp_dn ?_ ?_
    · refine rf_goW rf_mo_97 rf_T_97 60 [2] (And.intro (fun _ => hq) (fun hd => absurd ?_ hd))
      show ro I 100 (3 * i + 1) (stR (pP I c 0) (I 100 (3 * i + 1)) (nn (I 1 c 1))) 1 c 1 ≤ _
      rw [ro_b (by decide)]
      exact (nn_le hn.1 (by omega)).mpr (Nat.le_refl _)
    · intro m hm ih
      rw [← nt_succ m] at ih
      have e5 : ro I 100 (3 * i + 1) (stR (pP I c 0) (I 100 (3 * i + 1)) m) 5 = I 5 := ro_b (by decide)
      refine rf_goW rf_mo_97 rf_T_97 60 [2] (And.intro (fun hd => absurd (show ro I 100 (3 * i + 1) (stR (pP I c 0) (I 100 (3 * i + 1)) m) 1 c 1 ≤ Int32.ofNat m from hd) ?_) (fun _ => And.intro (nt_ix (n := 4) (by omega) (by decide)) ?_))
      · rw [ro_b (by decide)]
        exact fun hd => absurd ((nn_le hn.1 (by omega)).mp hd) (by omega)
      rw [nt_cl (by omega)]
      refine And.intro (ms_ix hi (by decide) (show ok (ro I 100 (3 * i + 1) (stR (pP I c 0) (I 100 (3 * i + 1)) m) 5 (4 * c + m) 0) 6 by rw [e5]; exact hp m hm)) ?_
      have es : rf_u3 (ro I 100 (3 * i + 1) (stR (pP I c 0) (I 100 (3 * i + 1)) m)) 100 (3 * i + 1) (nn (ro I 100 (3 * i + 1) (stR (pP I c 0) (I 100 (3 * i + 1)) m) 5 (4 * c + m) 0)) 0 = ro I 100 (3 * i + 1) (stR (pP I c 0) (I 100 (3 * i + 1)) (m + 1)) := by
        rw [e5, u3_ro, ro_self, ro_ro]
        rfl
      rw [← es] at ih
      exact ih
  have k0 := key 0 (by omega)
  rw [stR, ro_id] at k0
  exact k0
end LM
