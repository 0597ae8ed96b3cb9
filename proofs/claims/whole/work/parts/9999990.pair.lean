/-! the calls, class and model side by side: small ones -/
section PA
variable {l : Launch} {L : Nat} {I M I' M' : Nat → Nat → Nat → Int32} {J : Nat → Nat → Nat → Int64}
theorem cC_iff {b i : Nat} : cC b i ↔ (b < 4 ∨ b = 5 ∨ b = 6 ∨ b = 7 ∨ (b = 100 ∧ i < 10) ∨ (b = 101 ∧ i = 0)) := by unfold cC; omega
/-- the halves may be exchanged for equal ones -/
theorem Rel_eq (hR : Rel I M) (ec : ∀ b i, (b < 4 ∨ b = 5 ∨ b = 6 ∨ b = 7 ∨ (b = 100 ∧ i < 10) ∨ (b = 101 ∧ i = 0)) → I' b i = I b i) (e : ∀ b i, ((b = 100 ∧ 10 ≤ i ∧ i < 40) ∨ (b = 101 ∧ 1 ≤ i ∧ i < 5)) → M' b i = M b i) (e31 : M' 8 0 31 = M 8 0 31) (e32 : M' 8 0 32 = M 8 0 32) : Rel I' M' := by
  exact ⟨⟨RD_fr hR.1.1 (funext fun i => ec 2 i (by omega)) (fun k _ _ => e 100 k (by omega)) (e 101 1 (by omega)) (e 101 2 (by omega)), RB_fr hR.1.2.1 (fun p _ => ec 0 (1 + p) (by omega)) (fun k _ _ => e 100 k (by omega)), RP_fr hR.1.2.2.1 (funext fun i => ec 6 i (by omega)) (e 100 25 (by omega)) (e 100 26 (by omega)) (e 101 3 (by omega)), RM_fr hR.1.2.2.2.1 (ec 100 0 (by omega)) (ec 100 1 (by omega)) (e 100 23 (by omega)) (e 100 24 (by omega)), RC_fr hR.1.2.2.2.2.1 (fun c _ => ec 1 (40 + c) (by omega)) (fun c _ m _ => ec 5 (4 * (40 + c) + m) (by omega)) hR.2.2.2.2.1 (fun k _ _ => e 100 k (by omega)), RG_fr hR.1.2.2.2.2.2.1 (ec 100 2 (by omega)) (fun k _ _ => e 100 k (by omega)) (fun c _ hb => by rw [e 100 27 (by omega)] at hb; exact hb), RH_fr hR.1.2.2.2.2.2.2.1 (ec 101 0 (by omega)) (e 101 4 (by omega)), RJ_fr hR.1.2.2.2.2.2.2.2 (funext fun i => ec 3 i (by omega)) (congrFun (ec 7 0 (by omega)) 11) (fun k _ => ec 1 k (by omega)) (fun k _ => ec 5 k (by omega)) (ec 100 6 (by omega)) hR.2.2.2.2.2.2.2 e31 e32 (e 100 36 (by omega)) (e 100 37 (by omega))⟩, VD_fr hR.2.1 (e 100 10 (by omega)) (e 100 11 (by omega)) (e 100 12 (by omega)) (e 100 14 (by omega)) (e 100 16 (by omega)) (e 101 1 (by omega)) (e 101 3 (by omega)), VP_fr hR.2.2.1 (e 100 23 (by omega)) (e 100 24 (by omega)) (e 100 25 (by omega)) (e 101 3 (by omega)) (e 100 10 (by omega)), VB_fr hR.2.2.2.1 (fun k _ _ => e 100 k (by omega)), VC_fr hR.2.2.2.2.1 (fun k _ _ => e 100 k (by omega)), VA_fr hR.2.2.2.2.2.1 (fun k _ _ => e 100 k (by omega)) (e 100 23 (by omega)) (e 100 24 (by omega)) (e 100 25 (by omega)) (e 101 3 (by omega)) (fun c _ hb => by rw [e 100 27 (by omega)] at hb; exact hb), VS_fr hR.2.2.2.2.2.2.1 (fun k _ _ => e 100 k (by omega)) (e 100 24 (by omega)) (fun c _ hb => by rw [e 100 27 (by omega)]; exact hb), VJ_fr hR.2.2.2.2.2.2.2 (funext fun i => ec 3 i (by omega)) (fun k _ => ec 1 k (by omega)) (ec 100 6 (by omega)) e31 (e 100 36 (by omega)) (e 100 37 (by omega))⟩
theorem Rel_th {x : Int32} (h : Rel I I) : Rel (thI I x) (thI I x) := Rel_eq h (fun b i q => by rw [thI_b (by omega)]) (fun b i q => by rw [thI_b (by omega)]) (thI_8 (by decide)) (thI_8 (by decide))
theorem th_200 {x : Int32} : thI I x 200 = I 200 := thI_b (by decide)
/-- behind the class's call of a kind without an answer: the model's leads to agreement -/
def tpN (l : Launch) (L : Nat) (I : Nat → Nat → Nat → Int32) (k : Nat) (as : List rf_V) : rf_O → rf_S → Prop := fun u σ => ∃ (r : Int32) (K : Nat → Nat → Nat → Int32) (J : Nat → Nat → Nat → Int64), u = .inl (some (.inl r)) ∧ σ = sS L K J ∧ K 200 = I 200 ∧ ∀ Q' : rf_O → rf_S → Prop, (∀ K', Rel K' K' → K' 200 = I 200 → K' 8 0 0 = r → Q' (.inl none) (sS L K' J)) → rf_C l k as (sS L K J) Q'
/-- of a kind with an answer beside -/
def tpV (l : Launch) (L : Nat) (I : Nat → Nat → Nat → Int32) (k : Nat) (as : List rf_V) : rf_O → rf_S → Prop := fun u σ => ∃ (r : Int32) (K : Nat → Nat → Nat → Int32) (J : Nat → Nat → Nat → Int64), u = .inl (some (.inl r)) ∧ σ = sS L K J ∧ K 200 = I 200 ∧ ∀ Q' : rf_O → rf_S → Prop, (∀ K' y, Rel K' K' → K' 200 = I 200 → K' 8 0 0 = r → (r = 0 → J 102 0 0 = y.toInt64) → Q' (.inl (some (.inl y))) (sS L K' J)) → rf_C l k as (sS L K J) Q'
/-- a question -/
def tpQ (l : Launch) (L : Nat) (I : Nat → Nat → Nat → Int32) (k : Nat) (as : List rf_V) : rf_O → rf_S → Prop := fun u σ => ∃ (r : Int32) (K : Nat → Nat → Nat → Int32) (J : Nat → Nat → Nat → Int64), u = .inl (some (.inl r)) ∧ σ = sS L K J ∧ K 200 = I 200 ∧ ∀ Q' : rf_O → rf_S → Prop, (∀ K', Rel K' K' → K' 200 = I 200 → Q' (.inl (some (.inl r))) (sS L K' J)) → rf_C l k as (sS L K J) Q'
def mo : rf_V := .inr (.inr (some (8, 0)))
theorem p_handle {s x : Int32} (hx : x = 0 ∨ x = 1) (hR : Rel I I) : rf_C l 92 [dk, .inl s, .inl x] (sS L I J) (tpN l L I 93 [mo, .inl s, .inl x]) := by
  refine e_handle (c_handle hx (fun a1 => ?_) (fun a1 => ?_))
  · exact ⟨1, I, J, rfl, rfl, rfl, fun Q' q => d_handle hx (fun _ => q _ (Rel_th hR) th_200 thI_0) (fun a => absurd a a1)⟩
  · refine ⟨0, _, J, rfl, rfl, u3_b (by decide), fun Q' q => d_handle hx (fun a => absurd a1 a) (fun _ => ?_)⟩
    have s3 : nn s < 3 := a1.2
    have e : ∀ b i, ¬ ((b = 101 ∧ (i = 0 ∨ i = 4)) ∨ b = 8) → (rf_u3 (thI (rf_u3 I 101 0 (nn s) x) 0) 101 4 (nn s) x) b i = I b i := by
      intro b i h
      funext f
      simp only [rf_u3, thI]
      repeat (first | rw [if_neg (by omega)] | rfl)
    have e31 : (rf_u3 (thI (rf_u3 I 101 0 (nn s) x) 0) 101 4 (nn s) x) 8 0 31 = I 8 0 31 := by simp [rf_u3, thI]
    have e32 : (rf_u3 (thI (rf_u3 I 101 0 (nn s) x) 0) 101 4 (nn s) x) 8 0 32 = I 8 0 32 := by simp [rf_u3, thI]
    have e0 : (rf_u3 (thI (rf_u3 I 101 0 (nn s) x) 0) 101 4 (nn s) x) 8 0 0 = 0 := by simp [rf_u3, thI]
    refine q _ ?_ (funext fun i => e 200 i (by omega)) e0
    refine ⟨⟨RD_fr hR.1.1 (funext fun i => e 2 i (by omega)) (fun k _ _ => e 100 k (by omega)) (e 101 1 (by omega)) (e 101 2 (by omega)), RB_fr hR.1.2.1 (fun p _ => e 0 (1 + p) (by omega)) (fun k _ _ => e 100 k (by omega)), RP_fr hR.1.2.2.1 (funext fun i => e 6 i (by omega)) (e 100 25 (by omega)) (e 100 26 (by omega)) (e 101 3 (by omega)), RM_fr hR.1.2.2.2.1 (e 100 0 (by omega)) (e 100 1 (by omega)) (e 100 23 (by omega)) (e 100 24 (by omega)), RC_fr hR.1.2.2.2.2.1 (fun c _ => e 1 (40 + c) (by omega)) (fun c _ m _ => e 5 (4 * (40 + c) + m) (by omega)) hR.2.2.2.2.1 (fun k _ _ => e 100 k (by omega)), RG_fr hR.1.2.2.2.2.2.1 (e 100 2 (by omega)) (fun k _ _ => e 100 k (by omega)) (fun c _ hb => by rw [e 100 27 (by omega)] at hb; exact hb), ?_, RJ_fr hR.1.2.2.2.2.2.2.2 (funext fun i => e 3 i (by omega)) (congrFun (e 7 0 (by omega)) 11) (fun k _ => e 1 k (by omega)) (fun k _ => e 5 k (by omega)) (e 100 6 (by omega)) hR.2.2.2.2.2.2.2 e31 e32 (e 100 36 (by omega)) (e 100 37 (by omega))⟩, VD_fr hR.2.1 (e 100 10 (by omega)) (e 100 11 (by omega)) (e 100 12 (by omega)) (e 100 14 (by omega)) (e 100 16 (by omega)) (e 101 1 (by omega)) (e 101 3 (by omega)), VP_fr hR.2.2.1 (e 100 23 (by omega)) (e 100 24 (by omega)) (e 100 25 (by omega)) (e 101 3 (by omega)) (e 100 10 (by omega)), VB_fr hR.2.2.2.1 (fun k _ _ => e 100 k (by omega)), VC_fr hR.2.2.2.2.1 (fun k _ _ => e 100 k (by omega)), VA_fr hR.2.2.2.2.2.1 (fun k _ _ => e 100 k (by omega)) (e 100 23 (by omega)) (e 100 24 (by omega)) (e 100 25 (by omega)) (e 101 3 (by omega)) (fun c _ hb => by rw [e 100 27 (by omega)] at hb; exact hb), VS_fr hR.2.2.2.2.2.2.1 (fun k _ _ => e 100 k (by omega)) (e 100 24 (by omega)) (fun c _ hb => by rw [e 100 27 (by omega)]; exact hb), VJ_fr hR.2.2.2.2.2.2.2 (funext fun i => e 3 i (by omega)) (fun k _ => e 1 k (by omega)) (e 100 6 (by omega)) e31 (e 100 36 (by omega)) (e 100 37 (by omega))⟩
    intro t ht
    have h1 : rf_u3 (thI (rf_u3 I 101 0 (nn s) x) 0) 101 4 (nn s) x = rf_u3 (thI (rf_u3 I 101 0 (nn s) x) 0) 101 4 (nn s) x := rfl
    by_cases q : t = nn s
    · subst q
      simp [rf_u3, thI]
    · have := hR.1.2.2.2.2.2.2.1 t ht
      simp [rf_u3, thI, q]
      exact this
end PA
