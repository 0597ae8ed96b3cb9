/-! the class: the first pair that could meet; arm -/
section LPR
variable {l : Launch} {Q : rf_O → rf_S → Prop} {L : Nat} {I : Nat → Nat → Nat → Int32} {J : Nat → Nat → Nat → Int64} {σ : rf_S}
def cshP (I : Nat → Nat → Nat → Int32) (a b : Int32) : Prop := hei I (1 + nn a) (1 + nn b) (I 100 0 (nn a)) (I 100 9 (nn a)) (I 100 0 (nn b)) (I 100 0 (nn b)) ∨ (¬ I 100 9 (nn b) = I 100 0 (nn b) ∧ hei I (1 + nn a) (1 + nn b) (lgV I a b) (I 100 9 (nn a)) (I 100 0 (nn b)) (I 100 9 (nn b)))
theorem c_couldShareHeight {a b : Int32} (ha : ok a 6) (hb : ok b 6) (hc : ∀ c, c < 8 → plOk I (40 + c)) (hm : mvOk I) (h1 : cshP I a b → Q (.inl (some (.inl 1))) (sS L I J)) (h0 : ¬ cshP I a b → Q (.inl (some (.inl 0))) (sS L I J)) : rf_C l 79 [.inr (.inr (some (7, 0))), .inl a, .inl b] (sS L I J) Q := by
  apply rf_C.ofW
  refine rf_goW rf_mo_79 rf_T_79 90 [] (And.intro ha (And.intro hb (And.intro hb (And.intro ha (And.intro ha (And.intro ⟨by decide, by decide⟩ (c_sharesHeight (fun g => ?_) (fun g => ?_))))))))
  · have g' : hei I (1 + nn a) (1 + nn b) (I 100 0 (nn a)) (I 100 9 (nn a)) (I 100 0 (nn b)) (I 100 0 (nn b)) := g
    exact br_eq1 (And.intro (Or.inr rfl) (h1 (Or.inl g')))
  · have g' : ¬ hei I (1 + nn a) (1 + nn b) (I 100 0 (nn a)) (I 100 9 (nn a)) (I 100 0 (nn b)) (I 100 0 (nn b)) := g
    refine br_eq0 (And.intro hb (And.intro (fun (e : I 100 9 (nn b) = I 100 0 (nn b)) => ?_) (fun (e : ¬ I 100 9 (nn b) = I 100 0 (nn b)) => ?_)))
    · exact And.intro (Or.inl rfl) (h0 fun q => q.elim g' fun r => r.1 e)
    · refine And.intro ⟨by decide, by decide⟩ (c_letsGoAt ha hb hc hm ?_)
      refine And.intro ha (And.intro hb (And.intro ⟨by decide, by decide⟩ (c_sharesHeight (fun k => ?_) (fun k => ?_))))
      · have k' : hei I (1 + nn a) (1 + nn b) (lgV I a b) (I 100 9 (nn a)) (I 100 0 (nn b)) (I 100 9 (nn b)) := k
        exact br_eq1 (And.intro (Or.inr rfl) (h1 (Or.inr ⟨e, k'⟩)))
      · have k' : ¬ hei I (1 + nn a) (1 + nn b) (lgV I a b) (I 100 9 (nn a)) (I 100 0 (nn b)) (I 100 9 (nn b)) := k
        exact br_eq0 (And.intro (Or.inl rfl) (h0 fun q => q.elim g' fun r => k' r.2))
def cmP (I : Nat → Nat → Nat → Int32) (a b : Int32) : Prop := ¬ I 6 (nn a) 1 = 0 ∧ ¬ I 6 (nn b) 1 = 0 ∧ flo I (1 + nn a) (1 + nn b) ∧ cshP I a b ∧ cshP I b a
theorem c_couldMeet {a b : Int32} (ha : ok a 6) (hb : ok b 6) (hc : ∀ c, c < 8 → plOk I (40 + c)) (hm : mvOk I) (h1 : cmP I a b → Q (.inl (some (.inl 1))) (sS L I J)) (h0 : ¬ cmP I a b → Q (.inl (some (.inl 0))) (sS L I J)) : rf_C l 80 [.inr (.inr (some (7, 0))), .inl a, .inl b] (sS L I J) Q := by
  apply rf_C.ofW
  refine rf_goW rf_mo_80 rf_T_80 90 [] (And.intro ha (And.intro (fun e => And.intro (Or.inl rfl) (h0 fun q => q.1 e)) (fun e => And.intro hb (And.intro (fun f => And.intro (Or.inl rfl) (h0 fun q => q.2.1 f)) (fun f => And.intro ha (And.intro hb (And.intro ⟨by decide, by decide⟩ (c_sharesFloor (fun g => br_eq1 (And.intro ⟨by decide, by decide⟩ (c_couldShareHeight ha hb hc hm (fun k => br_eq1 (And.intro ⟨by decide, by decide⟩ (c_couldShareHeight hb ha hc hm (fun m => br_eq1 (And.intro (Or.inr rfl) (h1 ⟨e, f, g, k, m⟩))) (fun m => br_eq0 (And.intro (Or.inl rfl) (h0 fun q => m q.2.2.2.2)))))) (fun k => br_eq0 (And.intro (Or.inl rfl) (h0 fun q => k q.2.2.2.1)))))) (fun g => br_eq0 (And.intro (Or.inl rfl) (h0 fun q => g q.2.2.1)))))))))))
/-- what the rows of movers keep -/
def trOk (n : Nat → Nat) (t : (Nat → Int32) × (Nat → Int32) × (Nat → Int32)) : Prop := ∀ p, p < 6 → ¬ t.1 p = -1 → ok (t.1 p) 8 ∧ ok (t.2.1 p) (n (nn (t.1 p)))
theorem fmR_ok {P : Nat → Nat → Int32} {b : Nat → Int32} {c : Nat} {n : Nat → Nat} {t : (Nat → Int32) × (Nat → Int32) × (Nat → Int32)} (hc : c < 8) (hn : n c < 5) (ht : trOk n t) : ∀ m, m ≤ n c → trOk n (fmR P b (Int32.ofNat c) t m)
  | 0, _ => ht
  | m + 1, hm => by
    have ih := fmR_ok (P := P) (b := b) hc hn ht m (by omega)
    intro p hp
    rw [fmR]
    show ¬ uf (fmR P b (Int32.ofNat c) t m).1 (nn (P 0 m)) (Int32.ofNat c) p = -1 → ok (uf (fmR P b (Int32.ofNat c) t m).1 (nn (P 0 m)) (Int32.ofNat c) p) 8 ∧ ok (uf (fmR P b (Int32.ofNat c) t m).2.1 (nn (P 0 m)) (Int32.ofNat m) p) (n (nn (uf (fmR P b (Int32.ofNat c) t m).1 (nn (P 0 m)) (Int32.ofNat c) p)))
    unfold uf
    by_cases e : p = nn (P 0 m)
    · rw [if_pos e, if_pos e, nn_nat (by omega)]
      exact fun _ => ⟨ok_nat hc (by decide), ok_nat (by omega) (by omega)⟩
    · rw [if_neg e, if_neg e]
      exact ih p hp
theorem fsR_ok {P : Nat → Nat → Nat → Int32} {b : Nat → Nat → Int32} {n : Nat → Nat} {x : Nat → Int32} {a : Int32} {t : (Nat → Int32) × (Nat → Int32) × (Nat → Int32)} (hn : ∀ c, c < 8 → n c < 5) (ht : trOk n t) : ∀ c, c ≤ 8 → trOk n (fsR P b n x a t c)
  | 0, _ => ht
  | c + 1, hc => by
    have ih := fsR_ok (P := P) (b := b) (x := x) (a := a) hn ht c (by omega)
    rw [fsR]
    by_cases h : Int32.ofNat c = a ∨ bsy (x c)
    · rw [cif_t h]
      exact fmR_ok (by omega) (hn c (by omega)) ih (n c) (Nat.le_refl _)
    · rw [cif_f h]
      exact ih
theorem fs0_ok {n : Nat → Nat} : trOk n (fs0 I) := by
  intro p hp h
  exact absurd (show slR (fun _ => -1) (I 100 7) 6 p = -1 by rw [slR, if_pos hp]) h
theorem mvOk_m3 {a : Int32} (hc : ∀ c, c < 8 → plOk I (40 + c)) : mvOk (m3 I (fsI I a)) := by
  have h := fsR_ok (P := kP I) (b := kB I) (n := kN I) (x := stX I) (a := a) (fun c hc8 => (hc c hc8).1.2) (fs0_ok (I := I)) 8 (Nat.le_refl _)
  intro p hp
  have hN : ∀ c, kN (m3 I (fsI I a)) c = kN I c := fun c => by unfold kN; rw [m3_b (by decide)]
  rw [m3_7, m3_8, hN]
  exact h p hp
theorem plOk_m3 {t : (Nat → Int32) × (Nat → Int32) × (Nat → Int32)} (hc : ∀ c, c < 8 → plOk I (40 + c)) : ∀ c, c < 8 → plOk (m3 I t) (40 + c) := by
  intro c h8
  unfold plOk
  rw [m3_b (by decide), m3_b (by decide)]
  exact hc c h8
def lex (a' b' a b : Nat) : Prop := a' < a ∨ (a' = a ∧ b' < b)
theorem c_firstPair {x : Int32} (hc : ∀ c, c < 8 → plOk I (40 + c))
    (h1 : ∀ a b, a < b → b < 6 → cmP (m3 I (fsI I x)) (Int32.ofNat a) (Int32.ofNat b) → (∀ a' b', a' < b' → b' < 6 → lex a' b' a b → ¬ cmP (m3 I (fsI I x)) (Int32.ofNat a') (Int32.ofNat b')) → Q (.inl (some (.inl (10 * Int32.ofNat a + Int32.ofNat b)))) (sS L (m3 I (fsI I x)) J))
    (h0 : (∀ a b, a < b → b < 6 → ¬ cmP (m3 I (fsI I x)) (Int32.ofNat a) (Int32.ofNat b)) → Q (.inl (some (.inl (-1)))) (sS L (m3 I (fsI I x)) J)) : rf_C l 81 [.inr (.inr (some (7, 0))), .inl x] (sS L I J) Q := by
  apply rf_C.ofW
  have hc' := plOk_m3 (t := fsI I x) hc
  have hm' := mvOk_m3 (a := x) hc
  have key : ∀ a, a ≤ 6 → (∀ a' b', a' < b' → b' < 6 → a' < a → ¬ cmP (m3 I (fsI I x)) (Int32.ofNat a') (Int32.ofNat b')) → rf_W l 81 7 [some (.inr (.inr (some (7, 0)))), some (.inl x), some (.inl (Int32.ofNat a)), none] [] (sS L (m3 I (fsI I x)) J) 0 0 Q := by
    refine lp_dn ?_ ?_
    · intro hj
      exact rf_goW rf_mo_81 rf_T_81 60 [7, 17] (And.intro (fun _ => h0 fun a b hab hb6 => hj a b hab hb6 (by omega)) (fun hd => absurd (Int32.le_refl _) hd))
    · intro a ha ih hj
      rw [← nt_succ a] at ih
      have inner : ∀ b, b ≤ 6 → a < b → (∀ a' b', a' < b' → b' < 6 → lex a' b' a b → ¬ cmP (m3 I (fsI I x)) (Int32.ofNat a') (Int32.ofNat b')) → rf_W l 81 17 [some (.inr (.inr (some (7, 0)))), some (.inl x), some (.inl (Int32.ofNat a)), some (.inl (Int32.ofNat b))] [] (sS L (m3 I (fsI I x)) J) 0 0 Q := by
        refine lp_dn ?_ ?_
        · intro _ hk
          refine rf_goW rf_mo_81 rf_T_81 60 [7, 17] (And.intro (fun _ => fgt (ih fun a' b' h1 h2 h3 => ?_) (by repeat (first | exact True.intro | refine And.intro rfl ?_))) (fun hd => absurd (Int32.le_refl _) hd))
          by_cases e : a' = a
          · exact hk a' b' h1 h2 (Or.inr ⟨e, by omega⟩)
          · exact hk a' b' h1 h2 (Or.inl (by omega))
        · intro b hb ihb hab hk
          rw [← nt_succ b] at ihb
          refine rf_goW rf_mo_81 rf_T_81 60 [7, 17] (And.intro (fun hd => absurd ((nt_le (i := 6) (by omega) (by omega)).mp hd) (by omega)) (fun _ => And.intro ⟨by decide, by decide⟩ (c_couldMeet (ok_nat (by omega) (by decide)) (ok_nat hb (by decide)) hc' hm' (fun g => br_eq1 (h1 a b hab hb g hk)) (fun g => br_eq0 (ihb (by omega) fun a' b' k1 k2 k3 => ?_)))))
          by_cases e : a' = a ∧ b' = b
          · rw [e.1, e.2]; exact g
          · refine hk a' b' k1 k2 ?_
            rcases k3 with k3 | k3
            · exact Or.inl k3
            · exact Or.inr ⟨k3.1, by have : ¬ b' = b := fun q => e ⟨k3.1, q⟩
                                     omega⟩
      have i0 := inner (a + 1) (by omega) (by omega) (fun a' b' k1 k2 k3 => by
        rcases k3 with k3 | k3
        · exact hj a' b' k1 k2 k3
        · exact absurd k1 (by omega))
      rw [← nt_succ a] at i0
      exact rf_goW rf_mo_81 rf_T_81 60 [7, 17] (And.intro (fun hd => absurd ((nt_le (i := 6) (by omega) (by omega)).mp hd) (by omega)) (fun _ => i0))
  exact rf_goW rf_mo_81 rf_T_81 20 [7] (And.intro ⟨by decide, by decide⟩ (c_findMovers hc (key 0 (by omega) (fun _ _ _ _ h => absurd h (by omega)))))
end LPR
