/-! two pictures that agree where anything is -/
def eqS2 (σ σ' : rf_S) : Prop := (∀ b, σ.1 b = σ'.1 b) ∧ (∀ b i, 100 ≤ b → i < σ.1 b → σ.2.1 b i = σ'.2.1 b i) ∧ (∀ b i, 100 ≤ b → i < σ.1 b → ∀ j, j < σ.2.1 b i → σ.2.2.1 b i j = σ'.2.2.1 b i j ∧ σ.2.2.2.1 b i j = σ'.2.2.2.1 b i j ∧ σ.2.2.2.2 b i j = σ'.2.2.2.2 b i j) ∧ (∀ b i, b < 100 → i < σ.1 b → ∀ j t, rf_nth (rf_ft b) j = some t → (t = 2 → σ.2.2.2.1 b i j = σ'.2.2.2.1 b i j) ∧ (¬ t = 2 → σ.2.2.1 b i j = σ'.2.2.1 b i j)) ∧ σ.2.2.1 200 0 = σ'.2.2.1 200 0
theorem arrV_cg {cA : ClassId} {n : Nat} {f g : Nat → Value} (h : ∀ j, j < n → f j = g j) : arrV cA n f = arrV cA n g := by
  unfold arrV
  congr 1
  apply Array.ext
  · simp
  · intro i h1 h2
    simp at h1 ⊢
    exact h i h1
theorem fs_cg {bk : Nat × Nat → Nat} {σ σ' : rf_S} {r : Nat × Nat} {ft : List Nat} (h : ∀ j t, rf_nth ft j = some t → (t = 2 → σ.2.2.2.1 r.1 r.2 j = σ'.2.2.2.1 r.1 r.2 j) ∧ (¬ t = 2 → σ.2.2.1 r.1 r.2 j = σ'.2.2.1 r.1 r.2 j)) : ∀ (ts : List Nat) (j : Nat), (∀ i, rf_nth ts i = rf_nth ft (j + i)) → rf_fs bk σ r j ts = rf_fs bk σ' r j ts
  | [], _, _ => rfl
  | t :: ts, j, hj => by
    have h0 : rf_nth ft j = some t := (hj 0).symm
    obtain ⟨h1, h2⟩ := h j t h0
    rw [rf_fs, rf_fs, fs_cg h ts (j + 1) (fun i => by
      have := hj (i + 1)
      rw [show j + 1 + i = j + (i + 1) by omega]
      exact this)]
    congr 1
    by_cases q : t = 2
    · rw [if_pos q, if_pos q, h1 q]
    · rw [if_neg q, if_neg q, h2 q]
theorem ak_100 {b k : Nat} (h : rf_ak b = some k) : 100 ≤ b := by
  unfold rf_ak at h
  by_cases q : 100 ≤ b
  · exact q
  · have : Nat.ble 100 b = false := by
      cases e : Nat.ble 100 b with
      | false => rfl
      | true => exact absurd (Nat.le_of_ble_eq_true e) q
    rw [this] at h
    cases h
theorem ft_100 {b : Nat} (h : 100 ≤ b) : rf_ft b = [] := by
  unfold rf_ft
  have : rf_nth rf_fts b = none := by
    rw [rf_nth_eq]
    exact List.getElem?_eq_none (by show 9 ≤ b; omega)
  rw [this]
  rfl
theorem va_at_cg {D : va_G} {cA : Nat → ClassId} {bk : Nat × Nat → Nat} {σ σ' : rf_S} {r : Nat × Nat} {H : Heap} (e : eqS2 σ σ') (hr : r.2 < σ.1 r.1) (h : va_at D rf_cl (bk r, rf_cf cA bk σ r) H) : va_at D rf_cl (bk r, rf_cf cA bk σ' r) H := by
  obtain ⟨e1, e2, e3, e4, _⟩ := e
  unfold va_at at h ⊢
  unfold rf_cf at h ⊢
  cases q : rf_ak r.1 with
  | none =>
    rw [q] at h
    have fe : rf_fs bk σ r 0 (rf_ft r.1) = rf_fs bk σ' r 0 (rf_ft r.1) := by
      by_cases hb : r.1 < 100
      · exact fs_cg (ft := rf_ft r.1) (e4 r.1 r.2 hb hr) (rf_ft r.1) 0 (fun i => by rw [Nat.zero_add])
      · rw [ft_100 (by omega)]
        rfl
    rw [fe] at h
    exact h
  | some k =>
    rw [q] at h
    have hb := ak_100 q
    have hl := e2 r.1 r.2 hb hr
    have hv := e3 r.1 r.2 hb hr
    match k, h with
    | 0, h =>
      refine h.trans ?_
      show some (vp_cell (cA r.1) (σ.2.1 r.1 r.2, .inl (σ.2.2.1 r.1 r.2))) = some (vp_cell (cA r.1) (σ'.2.1 r.1 r.2, .inl (σ'.2.2.1 r.1 r.2)))
      rw [vp_cell_i, vp_cell_i, ← hl]
      congr 1
      exact arrV_cg fun j hj => by rw [(hv j hj).1]
    | 1, h =>
      refine h.trans ?_
      show some (vp_cell (cA r.1) (σ.2.1 r.1 r.2, .inr (.inl (σ.2.2.2.2 r.1 r.2)))) = some (vp_cell (cA r.1) (σ'.2.1 r.1 r.2, .inr (.inl (σ'.2.2.2.2 r.1 r.2))))
      rw [vp_cell_l, vp_cell_l, ← hl]
      congr 1
      exact arrV_cg fun j hj => by rw [(hv j hj).2.2]
    | k + 2, h =>
      refine h.trans ?_
      show some (vp_cell (cA r.1) (σ.2.1 r.1 r.2, .inr (.inr (.inr (.inr fun j => (σ.2.2.2.1 r.1 r.2 j).map (rf_ad bk)))))) = some (vp_cell (cA r.1) (σ'.2.1 r.1 r.2, .inr (.inr (.inr (.inr fun j => (σ'.2.2.2.1 r.1 r.2 j).map (rf_ad bk))))))
      rw [vp_cell_q, vp_cell_q, ← hl]
      congr 1
      exact arrV_cg fun j hj => by rw [(hv j hj).2.1]
theorem rf_ok_cg {σ σ' : rf_S} (e : ∀ b, σ.1 b = σ'.1 b) {v : rf_V} (h : rf_ok σ v) : rf_ok σ' v := by
  rcases v with x | x | _ | r
  · exact h
  · exact h
  · exact h
  · exact h.elim Or.inl fun q => Or.inr (by rw [← e]; exact q)
theorem rf_R_cg {N0 : Nat} {H0 : Heap} {D : va_G} {cA : Nat → ClassId} {bk : Nat × Nat → Nat} {σ σ' : rf_S} {s : State} {H : Heap} (e : eqS2 σ σ') (hP : ∀ b i, i < σ'.1 b → ∀ j, (j < σ'.2.1 b i ∨ j < (rf_ft b).length) → rf_ok σ' (.inr (.inr (σ'.2.2.2.1 b i j)))) (h : rf_R N0 H0 D cA bk σ s H) : rf_R N0 H0 D cA bk σ' s H := by
  obtain ⟨ks, k1, k2, k3, k4, k5, k6, k7, k8, k9⟩ := h
  have mem : ∀ r : Nat × Nat, r ∈ ks → r.2 < σ.1 r.1 := fun r hr => ((k2 r).mp hr).2
  have wl : ∀ (k : Nat) (q : Nat × va_E), (rf_wl cA bk σ' ks)[k]? = some q → ∃ r ∈ ks, q = (bk r, rf_cf cA bk σ' r) ∧ (rf_wl cA bk σ ks)[k]? = some (bk r, rf_cf cA bk σ r) := by
    intro k q hq
    unfold rf_wl at hq ⊢
    rw [List.getElem?_map] at hq ⊢
    cases hk : ks[k]? with
    | none => rw [hk] at hq; exact absurd hq (by simp)
    | some r =>
      rw [hk] at hq
      simp only [Option.map_some, Option.some.injEq] at hq
      exact ⟨r, List.mem_of_getElem? hk, hq.symm, rfl⟩
  refine ⟨ks, k1, fun r => by rw [k2 r, e.1 r.1], fun k q hq => ?_, ⟨fun i j p q hp hq w => ?_, fun k q hq => ?_⟩, k5, fun r hr j hj => ?_, fun h0 => ?_, k8, k9⟩
  · obtain ⟨r, hr, rfl, w⟩ := wl k q hq
    exact va_at_cg e (mem r hr) (k3 k _ w)
  · obtain ⟨r, _, rfl, w1⟩ := wl i p hp
    obtain ⟨r', _, rfl, w2⟩ := wl j q hq
    exact k4.1 i j _ _ w1 w2 w
  · obtain ⟨r, _, rfl, w1⟩ := wl k q hq
    exact k4.2 k (bk r, rf_cf cA bk σ r) w1
  · exact hP r.1 r.2 (by rw [← e.1]; exact mem r hr) j hj
  · rw [← e.1] at h0
    obtain ⟨x1, x2⟩ := k7 h0
    rw [← e.2.1 rf_scr 0 (by decide) h0, show σ'.2.2.1 rf_scr 0 = σ.2.2.1 rf_scr 0 from e.2.2.2.2.symm]
    exact ⟨x1, x2⟩
theorem rf_W_cg {l : Launch} {k pc : Nat} {lv : List (Option rf_V)} {st : List rf_V} {σ σ' : rf_S} {ce sl : Nat} {Q : rf_O → rf_S → Prop} (e : eqS2 σ σ') (hP : ∀ b i, i < σ'.1 b → ∀ j, (j < σ'.2.1 b i ∨ j < (rf_ft b).length) → rf_ok σ' (.inr (.inr (σ'.2.2.2.1 b i j)))) (h : rf_W l k pc lv st σ' ce sl Q) : rf_W l k pc lv st σ ce sl Q := by
  intro N0 H0 D cA bk p ev s m args below meth c H locs ls h1 h2 h3 h4 h5 h6 h7 h8 h9
  refine rf_post (h N0 H0 D cA bk p ev s m args below meth c H locs ls h1 (rf_R_cg e hP h2) h3 (fun v hv => rf_ok_cg e.1 (h4 v hv)) (fun v hv => rf_ok_cg e.1 (h5 v hv)) h6 h7 h8 h9) fun t ht => ?_
  refine rf_B.mono (fun o t' hz => ?_) ht
  obtain ⟨u, σ2, bk', z1, z2, z3, z4, z5⟩ := hz
  exact ⟨u, σ2, bk', z1, z2, z3, z4, fun b => by rw [e.1 b]; exact z5.1 b, fun r hr => z5.2 r (by rw [← e.1]; exact hr)⟩
