/-! the class: arm -/
section LARM
variable {l : Launch} {Q : rf_O → rf_S → Prop} {L : Nat} {I : Nat → Nat → Nat → Int32} {J : Nat → Nat → Nat → Int64} {σ : rf_S}
def arC (I : Nat → Nat → Nat → Int32) (c : Nat) : Prop := ¬ busy I (40 + c) ∧ ¬ I 1 (40 + c) 1 ≤ 0 ∧ ∀ j, j < nn (I 1 (40 + c) 1) → rdy I (40 + c) j
def arI (I : Nat → Nat → Nat → Int32) (c : Nat) : Nat → Nat → Nat → Int32 := ro I 100 2 (bgF (pP I (40 + c) 0) (I 100 0) (I 100 2) (nn (I 1 (40 + c) 1)))
noncomputable def arM (I : Nat → Nat → Nat → Int32) (c : Int32) : Nat → Nat → Nat → Int32 := m3 (arI I (nn c)) (fsI (arI I (nn c)) c)
theorem ar_ne : ∀ a b : Nat, a < b → b < 6 → ¬ 10 * Int32.ofNat a + Int32.ofNat b = -1 := by
  intro a b hab hb
  have h1 : a = 0 ∨ a = 1 ∨ a = 2 ∨ a = 3 ∨ a = 4 := by omega
  have h2 : b = 1 ∨ b = 2 ∨ b = 3 ∨ b = 4 ∨ b = 5 := by omega
  rcases h1 with rfl | rfl | rfl | rfl | rfl <;> rcases h2 with rfl | rfl | rfl | rfl | rfl <;> decide
theorem plOk_ar {c : Nat} (hc : ∀ c, c < 8 → plOk I (40 + c)) : ∀ c', c' < 8 → plOk (arI I c) (40 + c') := by
  intro c' h8
  unfold plOk arI
  rw [ro_b (by decide), ro_b (by decide)]
  exact hc c' h8
theorem c_arm {c : Int32} (hc : ∀ c, c < 8 → plOk I (40 + c)) (h0 : ¬ ok c 8 → Q (.inr 0) (sS L I J)) (h2 : ok c 8 → ¬ arC I (nn c) → Q (.inr 2) (sS L I J))
    (h3 : ok c 8 → arC I (nn c) → ∀ a b, a < b → b < 6 → cmP (arM I c) (Int32.ofNat a) (Int32.ofNat b) → (∀ a' b', a' < b' → b' < 6 → lex a' b' a b → ¬ cmP (arM I c) (Int32.ofNat a') (Int32.ofNat b')) → Q (.inl (some (.inl (10 * Int32.ofNat a + Int32.ofNat b)))) (sS L (arM I c) J))
    (hq : ok c 8 → arC I (nn c) → (∀ a b, a < b → b < 6 → ¬ cmP (arM I c) (Int32.ofNat a) (Int32.ofNat b)) → Q (.inl (some (.inl (-1)))) (sS L (rf_u3 (arM I c) 1 (40 + nn c) 3 1) J)) : rf_C l 82 [.inr (.inr (some (7, 0))), .inl c] (sS L I J) Q := by
  apply rf_C.ofW
  refine rf_goW rf_mo_82 rf_T_82 60 [48] (And.intro ⟨by decide, by decide⟩ (c_checkIx (n := 8) (by decide) (fun a1 => And.intro a1 ?_) h0))
  have hC : plOk I (40 + nn c) := hc _ a1.2
  have bad : ¬ arC I (nn c) → rf_W l 82 48 [some (.inr (.inr (some (7, 0)))), some (.inl c), none] [.inl 0] (sS L I J) 1 6 Q := fun g => rf_goW rf_mo_82 rf_T_82 60 [] (And.intro ⟨by decide, by decide⟩ (ks0 (h2 a1 g)))
  have good : arC I (nn c) → rf_W l 82 48 [some (.inr (.inr (some (7, 0)))), some (.inl c), none] [.inl 1] (sS L I J) 1 6 Q := by
    intro g
    have h3' := h3 a1 g
    have hq' := hq a1 g
    refine rf_goW rf_mo_82 rf_T_82 60 [] (And.intro ⟨by decide, by decide⟩ (ks1 (And.intro a1 (And.intro ⟨by decide, by decide⟩ (c_beginHere (i := 0) (by decide) hC.1 (fun j hj => (hC.2 j hj).1) (And.intro ⟨by decide, by decide⟩ (c_firstPair (I := arI I (nn c)) (x := c) (plOk_ar hc) (fun a b hab hb hm hl => ?_) (fun hn => ?_))))))))
    · exact And.intro (fun _ => h3' a b hab hb hm hl) (fun e => absurd e (ar_ne a b hab hb))
    · exact And.intro (fun e => absurd rfl e) (fun _ => And.intro a1 (hq' hn))
  refine And.intro ⟨by decide, by decide⟩ (c_isBusy (fun hb => br_ne1 (bad fun q => q.1 hb)) (fun hb => br_ne0 (And.intro a1 (And.intro (fun (e : I 1 (40 + nn c) 1 ≤ 0) => bad fun q => q.2.1 e) (fun (e : ¬ I 1 (40 + nn c) 1 ≤ 0) => And.intro a1 (And.intro ⟨by decide, by decide⟩ (c_piecesAreReady (fun c' h8 => (hc c' h8).1) hC.1 (fun j hj => (hC.2 j hj).1) (fun g => br_eq1 (good ⟨hb, e, g⟩)) (fun g => br_eq0 (bad fun q => g q.2.2)))))))))
end LARM
