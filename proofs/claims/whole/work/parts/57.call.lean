/-! a call, a return: the callee's picture is the caller's -/
theorem rf_R.moved {N0 : Nat} {H0 : Heap} {D : va_G} {cA : Nat → ClassId} {bk : Nat × Nat → Nat} {σ : rf_S} {s s' : State} {H : Heap} (h : s.vm.Alike s'.vm) (hR : rf_R N0 H0 D cA bk σ s H) : rf_R N0 H0 D cA bk σ s' H := by
  obtain ⟨ks, g1, g2, g3, g4, g5, g6, g7, g8, g9⟩ := hR
  refine ⟨ks, g1, g2, g3, g4, g5, g6, fun hp => ?_, va_K.moved h g8, g9⟩
  obtain ⟨⟨scr, q1, q2, q3⟩, q4⟩ := g7 hp
  exact ⟨⟨scr, q1, State.isArrayOf_alike h q2, q3⟩, q4⟩
theorem rf_oc.moved {bk : Nat × Nat → Nat} {s s' t : State} {u : rf_O} {o : Outcome} (h : s.vm.Alike s'.vm) (ho : rf_oc bk s t u o) : rf_oc bk s' t u o := by
  cases u with
  | inl v => exact ho
  | inr x =>
    obtain ⟨q, ce, h1, h2, h3, h4⟩ := ho
    exact ⟨q, ce, h1, h2, h3, by rw [h.findClass]; exact h4⟩
theorem rf_Z.moved {N0 : Nat} {H0 : Heap} {D : va_G} {cA : Nat → ClassId} {bk : Nat × Nat → Nat} {σ : rf_S} {s s' : State} {Q : rf_O → rf_S → Prop} {o : Outcome} {t : State} (h : s.vm.Alike s'.vm) (hz : rf_Z N0 H0 D cA bk σ s Q o t) : rf_Z N0 H0 D cA bk σ s' Q o t := by
  obtain ⟨u, σ', bk', h1, h2, h3, h4, h5⟩ := hz
  exact ⟨u, σ', bk', h1, h2.moved h, h3, h4.moved h, h5⟩
theorem rf_sl1 : ∀ (vs : List Value), (∀ v ∈ vs, v.category = 1) → lg_sl vs = vs.map Slot.val
  | [], _ => rfl
  | v :: t, h => by
    have h1 := h v List.mem_cons_self
    have h2 := rf_sl1 t fun w hw => h w (List.mem_cons_of_mem _ hw)
    show (if v.category = 2 then [Slot.val v, .second] else [.val v]) ++ lg_sl t = _
    rw [if_neg (by omega), h2]
    rfl
theorem rf_wt1 : ∀ (as : List rf_V), rf_wt as = as.length → ∀ v ∈ as, rf_cat v = 1
  | [], _, _, hv => nomatch hv
  | w :: t, h, v, hv => by
    have hc : ∀ x : rf_V, 1 ≤ rf_cat x := fun x => by rcases x with x | x | x <;> simp [rf_cat]
    have hge : ∀ l : List rf_V, l.length ≤ rf_wt l := fun l => by
      induction l with
      | nil => exact Nat.le_refl _
      | cons a l ih => have := hc a; simp only [rf_wt, List.length_cons]; omega
    have h1 := hc w
    have h2 := hge t
    simp only [rf_wt, List.length_cons] at h
    rcases List.mem_cons.mp hv with rfl | hv
    · omega
    · exact rf_wt1 t (by omega) v hv
/-- the locals at the entry hold the arguments -/
theorem rf_entry {k : Nat} {as : List rf_V} {bk : Nat × Nat → Nat} {mk : MethodId} (hc : ∀ v ∈ as, rf_cat v = 1) (hl : as.length ≤ rf_ml k) :
    ∃ ls : Array Slot, entryFrame mk (as.map (rf_lo bk)).toArray (rf_ml k) = F0 mk 0 ls [] ∧ lv_has ls (rf_ml k) (rf_ll bk 0 (rf_ent k as)) := by
  have hsl : lg_sl (as.map (rf_lo bk)) = (as.map (rf_lo bk)).map Slot.val := rf_sl1 _ fun v hv => by
    obtain ⟨w, hw, rfl⟩ := List.mem_map.mp hv
    rw [rf_cat_lo]; exact hc w hw
  have hle : (lg_sl (as.map (rf_lo bk))).length ≤ rf_ml k := by rw [hsl]; simpa using hl
  refine ⟨_, lg_entry_eq mk (as.map (rf_lo bk)) (rf_ml k), ?_⟩
  obtain ⟨h1, h2, -⟩ := lv_entry (as.map (rf_lo bk)) hle
  refine ⟨h1, h2, fun q hq => ?_⟩
  obtain ⟨j, x, hj, rfl⟩ := (rf_ll_mem _ 0).mp hq
  have hlt : j < as.length := by
    apply Nat.lt_of_not_le
    intro hge
    rw [rf_ent, List.getElem?_append_right (by simpa using hge)] at hj
    have := List.mem_of_getElem? hj
    simp [List.mem_replicate] at this
  rw [rf_ent, List.getElem?_append_left (by simpa using hlt)] at hj
  rw [hsl]
  simp only [List.getElem?_toArray]
  rw [List.getElem?_append_left (by simpa using hlt)]
  simp only [List.getElem?_map] at hj ⊢
  obtain ⟨y, hy⟩ : ∃ y, as[j]? = some y := ⟨_, List.getElem?_eq_getElem hlt⟩
  rw [hy] at hj
  simp only [Option.map_some, Option.some.injEq] at hj
  subst hj
  simp [hy]
