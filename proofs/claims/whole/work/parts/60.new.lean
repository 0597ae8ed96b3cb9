/-! new objects and arrays -/
theorem rf_RA_eq {s : State} {c1 c2 : ClassId} {ty : FieldType} (h1 : va_RA s c1 ty) (h2 : va_RA s c2 ty) : c1 = c2 := by
  cases ty with
  | object C =>
    obtain ⟨_, _, _, _, _, e1⟩ := h1
    obtain ⟨_, _, _, _, _, e2⟩ := h2
    exact Option.some.inj (e1.symm.trans e2)
  | _ => exact Option.some.inj (Eq.trans (Eq.symm h1) h2)
/-- the book with one more -/
def rf_bk1 (bk : Nat × Nat → Nat) (r : Nat × Nat) (q : Nat) : Nat × Nat → Nat := fun r' => if r' = r then q else bk r'
section RFN
variable {l : Launch} {k pc pc' : Nat} {lv : List (Option rf_V)} {st r : List rf_V} {σ : rf_S} {ce sl : Nat} {Q : rf_O → rf_S → Prop} {a n : Nat}
theorem rf_newK_row {α : Type} (f : Nat → Nat → Nat → α) (b i : Nat) (x : α) {r : Nat × Nat} (h : r ≠ (b, i)) : rf_ur f b i x r.1 r.2 = f r.1 r.2 := by
  funext j
  show (if r.1 = b ∧ r.2 = i then x else _) = _
  rw [if_neg fun q => h (Prod.ext q.1 q.2)]
theorem rf_newK_self {α : Type} (f : Nat → Nat → Nat → α) (b i j : Nat) (x : α) : rf_ur f b i x b i j = x := by simp [rf_ur]
/-- an array's cell is what stands within its length -/
theorem rf_arr_congr {cA : ClassId} {n : Nat} {f g : Nat → Value} (h : ∀ j, j < n → f j = g j) : arrV cA n f = arrV cA n g := by
  unfold arrV
  congr 1
  apply Array.ext
  · simp
  · intro i h1 h2
    simp only [Array.getElem_ofFn]
    exact h i (by simpa using h1)
/-- the old cells are the same in the new picture -/
theorem rf_cf_new {D : va_G} {H : Heap} {cA : Nat → ClassId} {bk : Nat × Nat → Nat} {q : Nat} {r : Nat × Nat} (hr : r ≠ (a, σ.1 a)) (hok : ∀ j, (j < σ.2.1 r.1 r.2 ∨ j < (rf_ft r.1).length) → rf_ok σ (.inr (.inr (σ.2.2.2.1 r.1 r.2 j)))) (h : va_at D rf_cl (bk r, rf_cf cA bk σ r) H) : va_at D rf_cl (bk r, rf_cf cA (rf_bk1 bk (a, σ.1 a) q) (rf_newK σ a n) r) H := by
  have e1 : (rf_newK σ a n).2.2.1 r.1 r.2 = σ.2.2.1 r.1 r.2 := rf_newK_row _ _ _ _ hr
  have e2 : (rf_newK σ a n).2.2.2.1 r.1 r.2 = σ.2.2.2.1 r.1 r.2 := rf_newK_row _ _ _ _ hr
  have e3 : (rf_newK σ a n).2.2.2.2 r.1 r.2 = σ.2.2.2.2 r.1 r.2 := rf_newK_row _ _ _ _ hr
  have e4 : (rf_newK σ a n).2.1 r.1 r.2 = σ.2.1 r.1 r.2 := by
    show (if r.1 = a ∧ r.2 = σ.1 a then n else _) = _
    rw [if_neg fun q => hr (Prod.ext q.1 q.2)]
  have e5 : ∀ j, (j < σ.2.1 r.1 r.2 ∨ j < (rf_ft r.1).length) → (σ.2.2.2.1 r.1 r.2 j).map (rf_ad (rf_bk1 bk (a, σ.1 a) q)) = (σ.2.2.2.1 r.1 r.2 j).map (rf_ad bk) := fun j hj => by
    have := hok j hj
    cases hp : σ.2.2.2.1 r.1 r.2 j with
    | none => rfl
    | some x =>
      rw [hp] at this
      rcases this with h | h
      · simp [rf_ad, h]
      · have hne : x ≠ (a, σ.1 a) := fun e => by subst e; exact Nat.lt_irrefl _ h
        simp [rf_ad, rf_bk1, hne]
  have hfs : ∀ (ts : List Nat) (j0 : Nat), j0 + ts.length ≤ (rf_ft r.1).length → rf_fs (rf_bk1 bk (a, σ.1 a) q) (rf_newK σ a n) r j0 ts = rf_fs bk σ r j0 ts := by
    intro ts
    induction ts with
    | nil => intro _ _; rfl
    | cons t ts ih =>
      intro j0 hj0
      simp only [List.length_cons] at hj0
      rw [rf_fs, rf_fs, ih (j0 + 1) (by omega), e1, e2, e5 j0 (Or.inr (by omega))]
  have hcf : ∀ bk' σ', rf_cf cA bk' σ' r = match rf_ak r.1 with
      | some 0 => .inl (cA r.1, σ'.2.1 r.1 r.2, .inl (σ'.2.2.1 r.1 r.2))
      | some 1 => .inl (cA r.1, σ'.2.1 r.1 r.2, .inr (.inl (σ'.2.2.2.2 r.1 r.2)))
      | some _ => .inl (cA r.1, σ'.2.1 r.1 r.2, .inr (.inr (.inr (.inr fun j => (σ'.2.2.2.1 r.1 r.2 j).map (rf_ad bk')))))
      | none => .inr (r.1, rf_fs bk' σ' r 0 (rf_ft r.1)) := fun _ _ => rfl
  rw [hcf] at h ⊢
  rw [e1, e2, e3, e4, hfs _ 0 (by omega)]
  cases hk : rf_ak r.1 with
  | none => rw [hk] at h; exact h
  | some t =>
    rw [hk] at h
    rcases t with _ | _ | t
    · exact h
    · exact h
    · show H[bk r]? = some (vp_cell _ _)
      have h' : H[bk r]? = some (vp_cell (cA r.1) (σ.2.1 r.1 r.2, .inr (.inr (.inr (.inr fun j => (σ.2.2.2.1 r.1 r.2 j).map (rf_ad bk)))))) := h
      rw [h', vp_cell_q, vp_cell_q, rf_arr_congr fun j hj => ?_]
      rw [e5 j (Or.inl hj)]
/-- what the kit's rows on 'new' give, as a step of the picture -/
theorem rf_grow {ks : List (Nat × Nat)} {N0 : Nat} {H0 H1 : Heap} {D : va_G} {cA : Nat → ClassId} {bk : Nat × Nat → Nat} {s : State} {H : Heap} {q : Nat} {x : va_E} {locs : List Loc} (haS : a ≠ rf_scr)
    (g1 : ks.Nodup) (g2 : ∀ r : Nat × Nat, r ∈ ks ↔ r.1 ≠ rf_scr ∧ r.2 < σ.1 r.1) (g6 : ∀ r ∈ ks, ∀ j, (j < σ.2.1 r.1 r.2 ∨ j < (rf_ft r.1).length) → rf_ok σ (.inr (.inr (σ.2.2.2.1 r.1 r.2 j)))) (g7 : 0 < σ.1 rf_scr → va_X (bk (rf_scr, 0)) (σ.2.1 rf_scr 0) (σ.2.2.1 rf_scr 0) s H0 ∧ bk (rf_scr, 0) < N0) (g8 : va_K D rf_cl (rf_tys cA) s) (g9 : H0.size = N0)
    (hx : rf_cf cA (rf_bk1 bk (a, σ.1 a) q) (rf_newK σ a n) (a, σ.1 a) = x)
    (f1 : va_P D rf_cl (rf_wl cA bk σ ks ++ [(q, x)]) H1) (f2 : va_D (fun q => N0 ≤ q) (rf_wl cA bk σ ks ++ [(q, x)])) (f3 : va_S (fun q => N0 ≤ q) H0 H1 locs) :
    rf_R N0 H0 D cA (rf_bk1 bk (a, σ.1 a) q) (rf_newK σ a n) s H1 ∧ rf_ex σ bk (rf_newK σ a n) (rf_bk1 bk (a, σ.1 a) q) := by
  have hle : ∀ b, σ.1 b ≤ (rf_newK σ a n).1 b := fun b => by
    show _ ≤ (if b = a then σ.1 a + 1 else σ.1 b)
    by_cases hb : b = a
    · subst hb; rw [if_pos rfl]; omega
    · rw [if_neg hb]; exact Nat.le_refl _
  have hex : rf_ex σ bk (rf_newK σ a n) (rf_bk1 bk (a, σ.1 a) q) := ⟨hle, fun r hr => by
    show (if r = (a, σ.1 a) then q else bk r) = bk r
    rw [if_neg fun e => by subst e; exact Nat.lt_irrefl _ hr]⟩
  have hni : (a, σ.1 a) ∉ ks := fun hm => Nat.lt_irrefl _ ((g2 _).mp hm).2
  have hold : ∀ r ∈ ks, rf_bk1 bk (a, σ.1 a) q r = bk r := fun r hr => by
    have hne : r ≠ (a, σ.1 a) := fun e => hni (e ▸ hr)
    simp [rf_bk1, hne]
  have hself : rf_bk1 bk (a, σ.1 a) q (a, σ.1 a) = q := if_pos rfl
  have hP' : va_P D rf_cl (rf_wl cA (rf_bk1 bk (a, σ.1 a) q) (rf_newK σ a n) (ks ++ [(a, σ.1 a)])) H1 := by
    intro j y hy
    unfold rf_wl at hy
    rw [List.getElem?_map] at hy
    cases hk : (ks ++ [(a, σ.1 a)])[j]? with
    | none => rw [hk] at hy; cases hy
    | some r =>
      rw [hk] at hy
      simp only [Option.map_some, Option.some.injEq] at hy
      subst hy
      by_cases hj : j < ks.length
      · rw [List.getElem?_append_left hj] at hk
        have hm : r ∈ ks := List.mem_of_getElem? hk
        have hne : r ≠ (a, σ.1 a) := fun e => hni (e ▸ hm)
        rw [hold r hm]
        exact rf_cf_new hne (g6 r hm) (f1 j _ (by rw [List.getElem?_append_left (by simpa [rf_wl] using hj)]; simp [rf_wl, hk]))
      · rw [List.getElem?_append_right (by omega)] at hk
        have hz : j - ks.length = 0 := by
          have := (List.getElem?_eq_some_iff.mp hk).1
          simp only [List.length_singleton] at this
          omega
        rw [hz] at hk
        cases hk
        rw [hself, hx]
        exact f1 j _ (by rw [List.getElem?_append_right (by simp [rf_wl]; omega)]; simp [rf_wl, hz])
  have hD' : va_D (fun q => N0 ≤ q) (rf_wl cA (rf_bk1 bk (a, σ.1 a) q) (rf_newK σ a n) (ks ++ [(a, σ.1 a)])) := by
    have key : ∀ (j : Nat) (y : Nat × va_E), (rf_wl cA (rf_bk1 bk (a, σ.1 a) q) (rf_newK σ a n) (ks ++ [(a, σ.1 a)]))[j]? = some y → ∃ z, (rf_wl cA bk σ ks ++ [(q, x)])[j]? = some (y.1, z) := by
      intro j y hy
      unfold rf_wl at hy
      rw [List.getElem?_map] at hy
      cases hk : (ks ++ [(a, σ.1 a)])[j]? with
      | none => rw [hk] at hy; cases hy
      | some r =>
        rw [hk] at hy
        simp only [Option.map_some, Option.some.injEq] at hy
        subst hy
        by_cases hj : j < ks.length
        · rw [List.getElem?_append_left hj] at hk
          exact ⟨rf_cf cA bk σ r, by rw [List.getElem?_append_left (by simpa [rf_wl] using hj)]; simp [rf_wl, hk, hold r (List.mem_of_getElem? hk)]⟩
        · rw [List.getElem?_append_right (by omega)] at hk
          have hz : j - ks.length = 0 := by
            have := (List.getElem?_eq_some_iff.mp hk).1
            simp only [List.length_singleton] at this
            omega
          rw [hz] at hk
          cases hk
          exact ⟨x, by rw [List.getElem?_append_right (by simp [rf_wl]; omega)]; simp [rf_wl, hz, hself]⟩
    refine ⟨fun i j y z hi hj he => ?_, fun j y hy => ?_⟩
    · obtain ⟨y', hy'⟩ := key i y hi
      obtain ⟨z', hz'⟩ := key j z hj
      exact f2.1 i j _ _ hy' hz' he
    · obtain ⟨y', hy'⟩ := key j y hy
      exact f2.2 j (y.1, y') hy'
  refine ⟨⟨ks ++ [(a, σ.1 a)], ?_, fun r => ?_, hP', hD', ⟨f3.1, f3.2.1, fun _ hz => nomatch hz⟩, fun r hr j hj => ?_, fun hp => ?_, g8, g9⟩, hex⟩
  · rw [List.nodup_append]
    refine ⟨g1, by simp, fun x hx y hy => ?_⟩
    rw [List.mem_singleton] at hy
    subst hy
    exact fun e => hni (e ▸ hx)
  · rw [List.mem_append, List.mem_singleton, g2]
    show _ ↔ r.1 ≠ rf_scr ∧ r.2 < (if r.1 = a then σ.1 a + 1 else σ.1 r.1)
    by_cases hb : r.1 = a
    · rw [if_pos hb, hb]
      constructor
      · rintro (⟨h1, h2⟩ | h1)
        · exact ⟨h1, by omega⟩
        · subst h1; exact ⟨haS, by simp⟩
      · rintro ⟨h1, h2⟩
        by_cases h3 : r.2 = σ.1 a
        · exact Or.inr (Prod.ext hb h3)
        · exact Or.inl ⟨h1, by omega⟩
    · rw [if_neg hb]
      constructor
      · rintro (h1 | h1)
        · exact h1
        · subst h1; exact absurd rfl hb
      · exact Or.inl
  · by_cases hne : r = (a, σ.1 a)
    · subst hne
      rw [show (rf_newK σ a n).2.2.2.1 a (σ.1 a) j = none from rf_newK_self _ _ _ _ _]
      trivial
    · have hr' : r ∈ ks := (List.mem_append.mp hr).elim id fun h => absurd (List.mem_singleton.mp h) hne
      have hlen9 : (rf_newK σ a n).2.1 r.1 r.2 = σ.2.1 r.1 r.2 := if_neg fun q => hne (Prod.ext q.1 q.2)
      have := g6 r hr' j (by rw [← hlen9]; exact hj)
      rw [show (rf_newK σ a n).2.2.2.1 r.1 r.2 = σ.2.2.2.1 r.1 r.2 from rf_newK_row _ _ _ _ hne]
      exact hex.ok this
  · have hsc : (rf_newK σ a n).1 rf_scr = σ.1 rf_scr := if_neg (Ne.symm haS)
    have hne : (rf_scr, 0) ≠ (a, σ.1 a) := fun e => haS (congrArg Prod.fst e).symm
    rw [hsc] at hp
    obtain ⟨q1, q2⟩ := g7 hp
    have e1 : rf_bk1 bk (a, σ.1 a) q (rf_scr, 0) = bk (rf_scr, 0) := if_neg hne
    have e2 : (rf_newK σ a n).2.2.1 rf_scr 0 = σ.2.2.1 rf_scr 0 := rf_newK_row _ _ _ _ hne
    have e3 : (rf_newK σ a n).2.1 rf_scr 0 = σ.2.1 rf_scr 0 := if_neg fun q => haS q.1.symm
    rw [e1, e2, e3]
    exact ⟨q1, q2⟩
end RFN
