/-! many steps at once: up to the places of the list, or so many of them -/
def rf_stop (pc : Nat) : List Nat → Bool
  | [] => false
  | q :: t => match Nat.beq pc q with
    | true => true
    | false => rf_stop pc t
def rf_sx (l : Launch) (k : Nat) (sp : List Nat) (Q : rf_O → rf_S → Prop) : Nat → Nat → List (Option rf_V) → List rf_V → rf_S → Nat → Nat → Prop
  | 0, pc, lv, st, σ, ce, sl => rf_W l k pc lv st σ ce sl Q
  | n + 1, pc, lv, st, σ, ce, sl => match rf_stop pc sp with
    | true => rf_W l k pc lv st σ ce sl Q
    | false => match rf_tb k pc with
      | none => False
      | some e => rf_step l k (rf_sx l k sp Q n) Q pc e lv st σ ce sl
/-- the first step is always gone -/
def rf_go (l : Launch) (k : Nat) (sp : List Nat) (Q : rf_O → rf_S → Prop) (n pc : Nat) (lv : List (Option rf_V)) (st : List rf_V) (σ : rf_S) (ce sl : Nat) : Prop := match rf_tb k pc with
  | none => False
  | some e => rf_step l k (rf_sx l k sp Q n) Q pc e lv st σ ce sl
/-- the table of the method k is right -/
def rf_T (k : Nat) : Prop := ∀ (pc : Nat) (e : rf_E), rf_tb k pc = some e → rf_okb k pc e = true
theorem rf_sxW {l : Launch} {k : Nat} {sp : List Nat} {Q : rf_O → rf_S → Prop} (hm : rf_mok k = true) (hT : rf_T k) : ∀ (n pc : Nat) (lv : List (Option rf_V)) (st : List rf_V) (σ : rf_S) (ce sl : Nat), rf_sx l k sp Q n pc lv st σ ce sl → rf_W l k pc lv st σ ce sl Q
  | 0, pc, lv, st, σ, ce, sl, h => h
  | n + 1, pc, lv, st, σ, ce, sl, h => by
    unfold rf_sx at h
    cases hs : rf_stop pc sp with
    | true => rw [hs] at h; exact h
    | false =>
      rw [hs] at h
      cases ht : rf_tb k pc with
      | none => rw [ht] at h; exact h.elim
      | some e =>
        rw [ht] at h
        exact rf_sound (fun pc lv st σ ce sl h => rf_sxW hm hT n pc lv st σ ce sl h) hm (hT pc e ht) h
theorem rf_goW {l : Launch} {k : Nat} {Q : rf_O → rf_S → Prop} {pc : Nat} {lv : List (Option rf_V)} {st : List rf_V} {σ : rf_S} {ce sl : Nat} (hm : rf_mok k = true) (hT : rf_T k) (n : Nat) (sp : List Nat) (h : rf_go l k sp Q n pc lv st σ ce sl) : rf_W l k pc lv st σ ce sl Q := by
  unfold rf_go at h
  cases ht : rf_tb k pc with
  | none => rw [ht] at h; exact h.elim
  | some e =>
    rw [ht] at h
    exact rf_sound (fun pc lv st σ ce sl h => rf_sxW hm hT n pc lv st σ ce sl h) hm (hT pc e ht) h
theorem rf_T_of {k n : Nat} (hl : ∀ pc e, rf_tb k pc = some e → pc < n) (h : rf_okm k n = true) : rf_T k := by
  intro pc e he
  have := List.all_eq_true.mp h pc (List.mem_range.mpr (hl pc e he))
  rw [he] at this
  exact this
/-- how many places a table has -/
theorem rf_tb_lt {k n : Nat} {t : List (List (Option rf_E))} (ht : rf_nth rf_tbs k = some t) (hc : t.length ≤ n) : ∀ pc e, rf_tb k pc = some e → pc < 16 * n := by
  intro pc e he
  unfold rf_tb at he
  rw [ht] at he
  cases hq : rf_nth t (pc / 16) with
  | none => simp [hq] at he
  | some c =>
    rw [rf_nth_eq] at hq
    have := (List.getElem?_eq_some_iff.mp hq).1
    omega
