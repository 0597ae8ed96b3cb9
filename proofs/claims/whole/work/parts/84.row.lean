/-! a row of the ints anew; drives, pieces, moves, cues -/
def ro (I : Nat → Nat → Nat → Int32) (b i : Nat) (g : Nat → Int32) : Nat → Nat → Nat → Int32 := fun b' i' f => if b' = b ∧ i' = i then g f else I b' i' f
theorem ro_self {I : Nat → Nat → Nat → Int32} {b i : Nat} {g : Nat → Int32} : ro I b i g b i = g := by funext f; simp [ro]
theorem ro_at {I : Nat → Nat → Nat → Int32} {b i f : Nat} {g : Nat → Int32} : ro I b i g b i f = g f := by simp [ro]
theorem ro_ne {I : Nat → Nat → Nat → Int32} {b i b' i' : Nat} {g : Nat → Int32} (h : ¬ (b' = b ∧ i' = i)) : ro I b i g b' i' = I b' i' := by funext f; simp [ro, h]
theorem ro_ro {I : Nat → Nat → Nat → Int32} {b i : Nat} {g g' : Nat → Int32} : ro (ro I b i g) b i g' = ro I b i g' := by
  funext b' i' f
  by_cases h : b' = b ∧ i' = i <;> simp [ro, h]
theorem ro_id {I : Nat → Nat → Nat → Int32} {b i : Nat} : ro I b i (I b i) = I := by
  funext b' i' f
  by_cases h : b' = b ∧ i' = i
  · obtain ⟨rfl, rfl⟩ := h; simp [ro]
  · simp [ro, h]
def uf (g : Nat → Int32) (j : Nat) (x : Int32) : Nat → Int32 := fun f => if f = j then x else g f
theorem u3_ro {I : Nat → Nat → Nat → Int32} {b i j : Nat} {x : Int32} : rf_u3 I b i j x = ro I b i (uf (I b i) j x) := by
  funext b' i' f
  by_cases h : b' = b ∧ i' = i
  · obtain ⟨rfl, rfl⟩ := h
    by_cases hf : f = j <;> simp [ro, rf_u3, uf, hf]
  · have : ¬ (b' = b ∧ i' = i ∧ f = j) := fun q => h ⟨q.1, q.2.1⟩
    simp [ro, rf_u3, h, this]
/-- a state with one row anew -/
def rS (σ : rf_S) (b i : Nat) (g : Nat → Int32) : rf_S := (σ.1, σ.2.1, ro σ.2.2.1 b i g, σ.2.2.2.1, σ.2.2.2.2)
theorem rS_put {σ : rf_S} {b i j : Nat} {x : Int32} : rf_putI σ b i j x = rS σ b i (uf (σ.2.2.1 b i) j x) := by unfold rf_putI rS; rw [u3_ro]
theorem rS_rS {σ : rf_S} {b i : Nat} {g g' : Nat → Int32} : rS (rS σ b i g) b i g' = rS σ b i g' := by
  show (_, _, ro (ro _ _ _ _) _ _ _, _, _) = _
  rw [ro_ro]
  rfl
theorem rS_I {σ : rf_S} {b i : Nat} {g : Nat → Int32} : (rS σ b i g).2.2.1 = ro σ.2.2.1 b i g := rfl
section LR
variable {l : Launch} {σ : rf_S} {Q : rf_O → rf_S → Prop}
theorem eqS {o : rf_O} {σ σ' : rf_S} (e : σ = σ') (h : Q o σ') : Q o σ := e ▸ h
/-- five fields of another one -/
def t5 (g g' : Nat → Int32) : Nat → Int32 := fun f => if f < 5 then g' f else g f
theorem c_boxTake {i j : Nat} (h : Q (.inl none) (rS σ 0 i (t5 (σ.2.2.1 0 i) (σ.2.2.1 0 j)))) : rf_C l 17 [.inr (.inr (some (0, i))), .inr (.inr (some (0, j)))] σ Q := by
  apply rf_C.ofW
  refine rf_goW rf_mo_17 rf_T_17 60 [] ?_
  refine eqS (Q := Q) ?_ h
  simp only [rS_put, rS_rS, rS_I]
  congr 1
  funext f
  by_cases hij : j = i
  · subst hij
    rcases f with _ | _ | _ | _ | _ | f <;> simp [uf, t5, ro_at]
  · have hn : ¬ (0 = 0 ∧ j = i) := fun q => hij q.2
    simp only [ro_ne hn, ro_self]
    rcases f with _ | _ | _ | _ | _ | f <;> simp [uf, t5] <;> (intro h; omega)
end LR
