/-! a pure picture of the machine: values, one store, one predicate of a step -/
abbrev rf_V : Type := Int32 ⊕ (Int64 ⊕ Option (Nat × Nat))
abbrev rf_O : Type := Option rf_V ⊕ Nat
/-- how many of each block; lengths; ints; references; longs -/
abbrev rf_S : Type := (Nat → Nat) × (Nat → Nat → Nat) × (Nat → Nat → Nat → Int32) × (Nat → Nat → Nat → Option (Nat × Nat)) × (Nat → Nat → Nat → Int64)
theorem rf_nth_eq {α : Type} : ∀ (l : List α) (n : Nat), rf_nth l n = l[n]?
  | [], n => by simp [rf_nth]
  | a :: l, 0 => by simp [rf_nth]
  | a :: l, n + 1 => by simp [rf_nth, rf_nth_eq l n]
def rf_u1 {α : Type} (f : Nat → α) (b : Nat) (x : α) : Nat → α := fun b' => if b' = b then x else f b'
def rf_u2 {α : Type} (f : Nat → Nat → α) (b i : Nat) (x : α) : Nat → Nat → α := fun b' i' => if b' = b ∧ i' = i then x else f b' i'
def rf_u3 {α : Type} (f : Nat → Nat → Nat → α) (b i j : Nat) (x : α) : Nat → Nat → Nat → α := fun b' i' j' => if b' = b ∧ i' = i ∧ j' = j then x else f b' i' j'
/-- a whole row anew -/
def rf_ur {α : Type} (f : Nat → Nat → Nat → α) (b i : Nat) (x : α) : Nat → Nat → Nat → α := fun b' i' j' => if b' = b ∧ i' = i then x else f b' i' j'
def rf_putI (σ : rf_S) (b i j : Nat) (x : Int32) : rf_S := (σ.1, σ.2.1, rf_u3 σ.2.2.1 b i j x, σ.2.2.2.1, σ.2.2.2.2)
def rf_putP (σ : rf_S) (b i j : Nat) (x : Option (Nat × Nat)) : rf_S := (σ.1, σ.2.1, σ.2.2.1, rf_u3 σ.2.2.2.1 b i j x, σ.2.2.2.2)
def rf_putL (σ : rf_S) (b i j : Nat) (x : Int64) : rf_S := (σ.1, σ.2.1, σ.2.2.1, σ.2.2.2.1, rf_u3 σ.2.2.2.2 b i j x)
/-- one more of the block b, of so many elements, blank -/
def rf_newK (σ : rf_S) (b n : Nat) : rf_S := (rf_u1 σ.1 b (σ.1 b + 1), rf_u2 σ.2.1 b (σ.1 b) n, rf_ur σ.2.2.1 b (σ.1 b) 0, rf_ur σ.2.2.2.1 b (σ.1 b) none, rf_ur σ.2.2.2.2 b (σ.1 b) 0)
/-- the block of references that nobody follows -/
def rf_J : Nat := 300
/-- the script's block -/
def rf_scr : Nat := 200
def rf_ad (bk : Nat × Nat → Nat) (r : Nat × Nat) : Nat := if r.1 = rf_J then r.2 else bk r
def rf_lo (bk : Nat × Nat → Nat) : rf_V → Value
  | .inl x => .int x
  | .inr (.inl x) => .long x
  | .inr (.inr none) => .null
  | .inr (.inr (some r)) => .ref (rf_ad bk r)
def rf_ll (bk : Nat × Nat → Nat) : Nat → List (Option rf_V) → List (Nat × Value)
  | _, [] => []
  | i, none :: t => rf_ll bk (i + 1) t
  | i, some x :: t => (i, rf_lo bk x) :: rf_ll bk (i + 1) t
/-- a reference is one of those that there are -/
def rf_ok (σ : rf_S) : rf_V → Prop
  | .inr (.inr (some r)) => r.1 = rf_J ∨ r.2 < σ.1 r.1
  | _ => True
def rf_cat : rf_V → Nat
  | .inr (.inl _) => 2
  | _ => 1
theorem rf_cat_lo (bk : Nat × Nat → Nat) (v : rf_V) : (rf_lo bk v).category = rf_cat v := by
  rcases v with x | x | _ | r <;> rfl
def rf_wt : List rf_V → Nat
  | [] => 0
  | v :: t => rf_cat v + rf_wt t
theorem rf_wt_lo (bk : Nat × Nat → Nat) : ∀ st : List rf_V, ((st.map (rf_lo bk)).map fun v => v.category).sum = rf_wt st
  | [] => rfl
  | v :: t => by
    simp only [List.map_cons, List.sum_cons, rf_wt, rf_cat_lo]
    rw [← rf_wt_lo bk t]
/-- the first n of a list turned round, and the rest -/
def rf_pop : Nat → List rf_V → List rf_V → Option (List rf_V × List rf_V)
  | 0, acc, st => some (acc, st)
  | _ + 1, _, [] => none
  | n + 1, acc, v :: st => rf_pop n (v :: acc) st
theorem rf_pop_eq : ∀ (n : Nat) (acc st as r : List rf_V), rf_pop n acc st = some (as, r) → acc.reverse ++ st = as.reverse ++ r ∧ as.length = acc.length + n
  | 0, acc, st, as, r, h => by
    simp only [rf_pop, Option.some.injEq, Prod.mk.injEq] at h
    obtain ⟨rfl, rfl⟩ := h
    exact ⟨rfl, rfl⟩
  | n + 1, acc, [], as, r, h => by simp [rf_pop] at h
  | n + 1, acc, v :: st, as, r, h => by
    obtain ⟨h1, h2⟩ := rf_pop_eq n (v :: acc) st as r h
    simp only [List.reverse_cons, List.append_assoc, List.singleton_append, List.length_cons] at h1 h2
    exact ⟨h1, by omega⟩
theorem rf_ll_mem {bk : Nat × Nat → Nat} {q : Nat × Value} : ∀ (lv : List (Option rf_V)) (i : Nat), q ∈ rf_ll bk i lv ↔ ∃ (j : Nat) (x : rf_V), lv[j]? = some (some x) ∧ q = (i + j, rf_lo bk x)
  | [], i => by simp [rf_ll]
  | none :: t, i => by
    rw [rf_ll, rf_ll_mem t (i + 1)]
    constructor
    · rintro ⟨j, x, h1, h2⟩
      exact ⟨j + 1, x, by simpa using h1, by rw [h2]; congr 1; omega⟩
    · rintro ⟨j, x, h1, h2⟩
      cases j with
      | zero => simp at h1
      | succ j => exact ⟨j, x, by simpa using h1, by rw [h2]; congr 1; omega⟩
  | some y :: t, i => by
    rw [rf_ll, List.mem_cons, rf_ll_mem t (i + 1)]
    constructor
    · rintro (h | ⟨j, x, h1, h2⟩)
      · exact ⟨0, y, rfl, by simpa using h⟩
      · exact ⟨j + 1, x, by simpa using h1, by rw [h2]; congr 1; omega⟩
    · rintro ⟨j, x, h1, h2⟩
      cases j with
      | zero =>
        simp at h1
        subst h1
        exact Or.inl (by simpa using h2)
      | succ j => exact Or.inr ⟨j, x, by simpa using h1, by rw [h2]; congr 1; omega⟩
/-- the locals hold what the list says -/
theorem rf_lat {bk : Nat × Nat → Nat} {ls : Array Slot} {n : Nat} {lv : List (Option rf_V)} (h : lv_has ls n (rf_ll bk 0 lv)) {j : Nat} {x : rf_V} (hx : rf_nth lv j = some (some x)) : ls[j]? = some (.val (rf_lo bk x)) := by
  rw [rf_nth_eq] at hx
  have := h.2.2 (j, rf_lo bk x) ((rf_ll_mem lv 0).mpr ⟨j, x, hx, by simp⟩)
  exact this
/-- no long stands right before the place i -/
def rf_free (lv : List (Option rf_V)) : Nat → Bool
  | 0 => true
  | i + 1 => match rf_nth lv i with
    | some (some (.inr (.inl _))) => false
    | _ => true
theorem rf_lset {bk : Nat × Nat → Nat} {ls : Array Slot} {n i : Nat} {lv : List (Option rf_V)} {x : rf_V} (hf : rf_free lv i = true)
    (h : lv_has ls n ((i, rf_lo bk x) :: (rf_ll bk 0 lv).filter (fun q => !(q.1 == i) && !(q.1 + 1 == i && q.2.category == 2)))) : lv_has ls n (rf_ll bk 0 (lv.set i (some x))) := by
  refine ⟨h.1, h.2.1, fun q hq => ?_⟩
  obtain ⟨j, y, h1, h2⟩ := (rf_ll_mem _ 0).mp hq
  subst h2
  by_cases hj : i = j
  · subst hj
    have hlt : i < lv.length := by
      have := (List.getElem?_eq_some_iff.mp h1).1
      simpa using this
    rw [List.getElem?_set_self hlt] at h1
    cases h1
    have := h.2.2 (i, rf_lo bk x) List.mem_cons_self
    simpa using this
  · rw [List.getElem?_set_ne hj] at h1
    refine h.2.2 _ (List.mem_cons_of_mem _ (List.mem_filter.mpr ⟨(rf_ll_mem lv 0).mpr ⟨j, y, h1, rfl⟩, ?_⟩))
    simp only [Nat.zero_add, Bool.and_eq_true, Bool.not_eq_true', beq_eq_false_iff_ne, ne_eq, Bool.and_eq_false_imp, beq_iff_eq]
    refine ⟨fun q => hj q.symm, fun q => ?_⟩
    subst q
    rw [rf_cat_lo]
    simp only [rf_free, rf_nth_eq, h1] at hf
    rcases y with z | z | z
    · simp [rf_cat]
    · simp at hf
    · simp [rf_cat]
theorem rf_lset2 {bk : Nat × Nat → Nat} {ls : Array Slot} {n i : Nat} {lv : List (Option rf_V)} {x : rf_V} (hf : rf_free lv i = true)
    (h : lv_has ls n ((i, rf_lo bk x) :: (rf_ll bk 0 lv).filter (fun q => !(q.1 == i) && (!(q.1 == i + 1) && !(q.1 + 1 == i && q.2.category == 2))))) : lv_has ls n (rf_ll bk 0 ((lv.set i (some x)).set (i + 1) none)) := by
  refine ⟨h.1, h.2.1, fun q hq => ?_⟩
  obtain ⟨j, y, h1, h2⟩ := (rf_ll_mem _ 0).mp hq
  subst h2
  by_cases hj1 : i + 1 = j
  · subst hj1
    by_cases hlt : i + 1 < (lv.set i (some x)).length
    · rw [List.getElem?_set_self hlt] at h1
      simp at h1
    · rw [List.getElem?_eq_none (by simpa using hlt)] at h1
      simp at h1
  rw [List.getElem?_set_ne hj1] at h1
  by_cases hj : i = j
  · subst hj
    have hlt : i < lv.length := by
      have := (List.getElem?_eq_some_iff.mp h1).1
      simpa using this
    rw [List.getElem?_set_self hlt] at h1
    cases h1
    have := h.2.2 (i, rf_lo bk x) List.mem_cons_self
    simpa using this
  · rw [List.getElem?_set_ne hj] at h1
    refine h.2.2 _ (List.mem_cons_of_mem _ (List.mem_filter.mpr ⟨(rf_ll_mem lv 0).mpr ⟨j, y, h1, rfl⟩, ?_⟩))
    simp only [Nat.zero_add, Bool.and_eq_true, Bool.not_eq_true', beq_eq_false_iff_ne, ne_eq, Bool.and_eq_false_imp, beq_iff_eq]
    refine ⟨fun q => hj q.symm, fun q => hj1 q.symm, fun q => ?_⟩
    subst q
    rw [rf_cat_lo]
    simp only [rf_free, rf_nth_eq, h1] at hf
    rcases y with z | z | z
    · simp [rf_cat]
    · simp at hf
    · simp [rf_cat]
/-- the book only grows -/
def rf_ex (σ : rf_S) (bk : Nat × Nat → Nat) (σ' : rf_S) (bk' : Nat × Nat → Nat) : Prop := (∀ b, σ.1 b ≤ σ'.1 b) ∧ ∀ r : Nat × Nat, r.2 < σ.1 r.1 → bk' r = bk r
theorem rf_ex.refl (σ : rf_S) (bk : Nat × Nat → Nat) : rf_ex σ bk σ bk := ⟨fun _ => Nat.le_refl _, fun _ _ => rfl⟩
theorem rf_ex.trans {σ σ' σ'' : rf_S} {bk bk' bk'' : Nat × Nat → Nat} (h : rf_ex σ bk σ' bk') (h' : rf_ex σ' bk' σ'' bk'') : rf_ex σ bk σ'' bk'' :=
  ⟨fun b => Nat.le_trans (h.1 b) (h'.1 b), fun r hr => (h'.2 r (Nat.lt_of_lt_of_le hr (h.1 r.1))).trans (h.2 r hr)⟩
theorem rf_ex.lo {σ σ' : rf_S} {bk bk' : Nat × Nat → Nat} (h : rf_ex σ bk σ' bk') {v : rf_V} (hv : rf_ok σ v) : rf_lo bk' v = rf_lo bk v := by
  rcases v with x | x | _ | r
  · rfl
  · rfl
  · rfl
  · rcases hv with hv | hv
    · simp [rf_lo, rf_ad, hv]
    · simp [rf_lo, rf_ad, h.2 r hv]
theorem rf_ex.ok {σ σ' : rf_S} {bk bk' : Nat × Nat → Nat} (h : rf_ex σ bk σ' bk') {v : rf_V} (hv : rf_ok σ v) : rf_ok σ' v := by
  rcases v with x | x | _ | r
  · trivial
  · trivial
  · trivial
  · rcases hv with hv | hv
    · exact Or.inl hv
    · exact Or.inr (Nat.lt_of_lt_of_le hv (h.1 r.1))
theorem rf_ex.st {σ σ' : rf_S} {bk bk' : Nat × Nat → Nat} (h : rf_ex σ bk σ' bk') {st : List rf_V} (hv : ∀ v ∈ st, rf_ok σ v) : st.map (rf_lo bk') = st.map (rf_lo bk) :=
  List.map_congr_left fun v hm => h.lo (hv v hm)
theorem rf_ex.ll {σ σ' : rf_S} {bk bk' : Nat × Nat → Nat} (h : rf_ex σ bk σ' bk') : ∀ (lv : List (Option rf_V)) (i : Nat), (∀ v, some v ∈ lv → rf_ok σ v) → rf_ll bk' i lv = rf_ll bk i lv
  | [], _, _ => rfl
  | none :: t, i, hv => by rw [rf_ll, rf_ll, rf_ex.ll h t (i + 1) fun v hm => hv v (List.mem_cons_of_mem _ hm)]
  | some x :: t, i, hv => by rw [rf_ll, rf_ll, h.lo (hv x List.mem_cons_self), rf_ex.ll h t (i + 1) fun v hm => hv v (List.mem_cons_of_mem _ hm)]
