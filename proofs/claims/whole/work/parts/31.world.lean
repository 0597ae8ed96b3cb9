/-! the picture as the kit's list of cells: one is read, one is set, one comes on -/
theorem rf_fs_get (bk : Nat × Nat → Nat) (σ : rf_S) (r : Nat × Nat) : ∀ (ts : List Nat) (j i : Nat), (rf_fs bk σ r j ts)[i]? = (ts[i]?).map fun t => if t = 2 then va_rf ((σ.2.2.2.1 r.1 r.2 (j + i)).map (rf_ad bk)) else .int (σ.2.2.1 r.1 r.2 (j + i))
  | [], j, i => by simp [rf_fs]
  | t :: ts, j, 0 => by simp [rf_fs]
  | t :: ts, j, i + 1 => by
    rw [rf_fs, List.getElem?_cons_succ, rf_fs_get bk σ r ts (j + 1) i, List.getElem?_cons_succ]
    have : j + 1 + i = j + (i + 1) := by omega
    rw [this]
theorem rf_fs_len (bk : Nat × Nat → Nat) (σ : rf_S) (r : Nat × Nat) : ∀ (ts : List Nat) (j : Nat), (rf_fs bk σ r j ts).length = ts.length
  | [], j => rfl
  | t :: ts, j => by rw [rf_fs, List.length_cons, List.length_cons, rf_fs_len bk σ r ts (j + 1)]
theorem rf_rfV (bk : Nat × Nat → Nat) (x : Option (Nat × Nat)) : va_rf (x.map (rf_ad bk)) = rf_lo bk (.inr (.inr x)) := by cases x <;> rfl
theorem rf_pos {cA : Nat → ClassId} {bk : Nat × Nat → Nat} {σ : rf_S} {ks : List (Nat × Nat)} {r : Nat × Nat} (h : r ∈ ks) : ∃ q0 : Nat, ks[q0]? = some r ∧ (rf_wl cA bk σ ks)[q0]? = some (bk r, rf_cf cA bk σ r) := by
  obtain ⟨q0, hq⟩ := List.getElem?_of_mem h
  exact ⟨q0, hq, by simp [rf_wl, hq]⟩
theorem rf_wl_set {cA : Nat → ClassId} {bk : Nat × Nat → Nat} {σ σ' : rf_S} {ks : List (Nat × Nat)} {r : Nat × Nat} {q0 : Nat} (hnd : ks.Nodup) (h : ks[q0]? = some r) (ho : ∀ r' ∈ ks, r' ≠ r → rf_cf cA bk σ' r' = rf_cf cA bk σ r') :
    (rf_wl cA bk σ ks).set q0 (bk r, rf_cf cA bk σ' r) = rf_wl cA bk σ' ks := by
  have hlt := (List.getElem?_eq_some_iff.mp h).1
  apply List.ext_getElem?
  intro i
  by_cases hi : i = q0
  · subst hi
    rw [List.getElem?_set_self (by simpa [rf_wl] using hlt)]
    simp [rf_wl, h]
  · rw [List.getElem?_set_ne (Ne.symm hi)]
    simp only [rf_wl, List.getElem?_map]
    cases hk : ks[i]? with
    | none => rfl
    | some r' =>
      have hne : r' ≠ r := by
        intro e
        subst e
        have h1 := (List.getElem?_eq_some_iff.mp hk)
        have h2 := (List.getElem?_eq_some_iff.mp h)
        exact hi ((List.getElem_inj hnd).mp (h1.2.trans h2.2.symm))
      simp only [Option.map_some]
      rw [ho r' (List.mem_of_getElem? hk) hne]
theorem rf_cf_putI {cA : Nat → ClassId} {bk : Nat × Nat → Nat} {σ : rf_S} {b i j : Nat} {x : Int32} {r : Nat × Nat} (h : r ≠ (b, i)) : rf_cf cA bk (rf_putI σ b i j x) r = rf_cf cA bk σ r := by
  have hne : ¬ (r.1 = b ∧ r.2 = i) := fun q => h (Prod.ext q.1 q.2)
  have hf : (rf_putI σ b i j x).2.2.1 r.1 r.2 = σ.2.2.1 r.1 r.2 := by
    funext j'
    show (if r.1 = b ∧ r.2 = i ∧ j' = j then x else _) = _
    rw [if_neg fun q => hne ⟨q.1, q.2.1⟩]
  have hfs : ∀ (ts : List Nat) (j0 : Nat), rf_fs bk (rf_putI σ b i j x) r j0 ts = rf_fs bk σ r j0 ts := by
    intro ts
    induction ts with
    | nil => intro _; rfl
    | cons t ts ih => intro j0; rw [rf_fs, rf_fs, ih, hf]; rfl
  unfold rf_cf
  rw [hf, hfs]
  rfl
theorem rf_cf_putP {cA : Nat → ClassId} {bk : Nat × Nat → Nat} {σ : rf_S} {b i j : Nat} {x : Option (Nat × Nat)} {r : Nat × Nat} (h : r ≠ (b, i)) : rf_cf cA bk (rf_putP σ b i j x) r = rf_cf cA bk σ r := by
  have hne : ¬ (r.1 = b ∧ r.2 = i) := fun q => h (Prod.ext q.1 q.2)
  have hf : (rf_putP σ b i j x).2.2.2.1 r.1 r.2 = σ.2.2.2.1 r.1 r.2 := by
    funext j'
    show (if r.1 = b ∧ r.2 = i ∧ j' = j then x else _) = _
    rw [if_neg fun q => hne ⟨q.1, q.2.1⟩]
  have hfs : ∀ (ts : List Nat) (j0 : Nat), rf_fs bk (rf_putP σ b i j x) r j0 ts = rf_fs bk σ r j0 ts := by
    intro ts
    induction ts with
    | nil => intro _; rfl
    | cons t ts ih => intro j0; rw [rf_fs, rf_fs, ih, hf]; rfl
  unfold rf_cf
  rw [hf, hfs]
  rfl
theorem rf_cf_putL {cA : Nat → ClassId} {bk : Nat × Nat → Nat} {σ : rf_S} {b i j : Nat} {x : Int64} {r : Nat × Nat} (h : r ≠ (b, i)) : rf_cf cA bk (rf_putL σ b i j x) r = rf_cf cA bk σ r := by
  have hne : ¬ (r.1 = b ∧ r.2 = i) := fun q => h (Prod.ext q.1 q.2)
  have hf : (rf_putL σ b i j x).2.2.2.2 r.1 r.2 = σ.2.2.2.2 r.1 r.2 := by
    funext j'
    show (if r.1 = b ∧ r.2 = i ∧ j' = j then x else _) = _
    rw [if_neg fun q => hne ⟨q.1, q.2.1⟩]
  have hfs : ∀ (ts : List Nat) (j0 : Nat), rf_fs bk (rf_putL σ b i j x) r j0 ts = rf_fs bk σ r j0 ts := by
    intro ts
    induction ts with
    | nil => intro _; rfl
    | cons t ts ih => intro j0; rw [rf_fs, rf_fs, ih]; rfl
  unfold rf_cf
  rw [hf, hfs]
  rfl
theorem rf_u3_row {α : Type} (f : Nat → Nat → Nat → α) (b i j : Nat) (x : α) : rf_u3 f b i j x b i = fun j' => if j' = j then x else f b i j' := by
  funext j'
  by_cases h : j' = j <;> simp [rf_u3, h]
theorem rf_u3_self {α : Type} (f : Nat → Nat → Nat → α) (b i j : Nat) (x : α) : rf_u3 f b i j x b i j = x := by simp [rf_u3]
theorem rf_u3_ne {α : Type} {f : Nat → Nat → Nat → α} {b i j j' : Nat} {x : α} (h : j' ≠ j) : rf_u3 f b i j x b i j' = f b i j' := by simp [rf_u3, h]
/-- an int field of an object is set -/
theorem rf_cf_fieldI {cA : Nat → ClassId} {bk : Nat × Nat → Nat} {σ : rf_S} {b i j : Nat} {x : Int32} {t : Nat} (ha : rf_ak b = none) (ht : (rf_ft b)[j]? = some t) (h2 : t ≠ 2) :
    rf_cf cA bk (rf_putI σ b i j x) (b, i) = .inr (b, (rf_fs bk σ (b, i) 0 (rf_ft b)).set j (.int x)) := by
  unfold rf_cf
  simp only [ha]
  congr 2
  apply List.ext_getElem?
  intro n
  rw [rf_fs_get]
  have hlt := (List.getElem?_eq_some_iff.mp ht).1
  by_cases hn : n = j
  · subst hn
    rw [List.getElem?_set_self (by rw [rf_fs_len]; exact hlt), ht]
    simp only [Option.map_some, if_neg h2, Nat.zero_add]
    show some (Value.int (rf_u3 σ.2.2.1 b i n x b i n)) = _
    rw [rf_u3_self]
  · rw [List.getElem?_set_ne (Ne.symm hn), rf_fs_get]
    have h3 : (rf_putI σ b i j x).2.2.1 b i (0 + n) = σ.2.2.1 b i (0 + n) := by
      show rf_u3 σ.2.2.1 b i j x b i (0 + n) = _
      rw [rf_u3_ne (by omega)]
    rw [h3]
    rfl
theorem rf_cf_fieldP {cA : Nat → ClassId} {bk : Nat × Nat → Nat} {σ : rf_S} {b i j : Nat} {x : Option (Nat × Nat)} (ha : rf_ak b = none) (ht : (rf_ft b)[j]? = some 2) :
    rf_cf cA bk (rf_putP σ b i j x) (b, i) = .inr (b, (rf_fs bk σ (b, i) 0 (rf_ft b)).set j (rf_lo bk (.inr (.inr x)))) := by
  unfold rf_cf
  simp only [ha]
  congr 2
  apply List.ext_getElem?
  intro n
  rw [rf_fs_get]
  have hlt := (List.getElem?_eq_some_iff.mp ht).1
  by_cases hn : n = j
  · subst hn
    rw [List.getElem?_set_self (by rw [rf_fs_len]; exact hlt), ht]
    simp only [Option.map_some, if_pos, Nat.zero_add]
    show some (va_rf ((rf_u3 σ.2.2.2.1 b i n x b i n).map (rf_ad bk))) = _
    rw [rf_u3_self, rf_rfV]
  · rw [List.getElem?_set_ne (Ne.symm hn), rf_fs_get]
    have h3 : (rf_putP σ b i j x).2.2.2.1 b i (0 + n) = σ.2.2.2.1 b i (0 + n) := by
      show rf_u3 σ.2.2.2.1 b i j x b i (0 + n) = _
      rw [rf_u3_ne (by omega)]
    rw [h3]
    rfl
