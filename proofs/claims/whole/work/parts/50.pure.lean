/-! steps that leave the heap alone -/
section RFP
variable {l : Launch} {k pc pc' : Nat} {lv : List (Option rf_V)} {st st' r : List rf_V} {σ : rf_S} {ce sl : Nat} {Q : rf_O → rf_S → Prop}
theorem rf_pure (hrow : ∀ (p : Program) (e : Env) (R : Room) (s : State) (m : MethodId) (args : Array Value) (below : List Frame) (meth : Method) (c : Code) (H : Heap) (locs : List Loc) (bk : Nat × Nat → Nat) (ls : Array Slot) (P : State → Prop), p.tables.exec = Jvm.exec → c.code = rf_cd k → lv_has ls (rf_ml k) (rf_ll bk 0 lv) →
      W p l e R s m args below meth c H locs ce sl P (F0 m pc' ls (st'.map (rf_lo bk))) → W p l e R s m args below meth c H locs ce sl P (F0 m pc ls (st.map (rf_lo bk))))
    (hok : (∀ v, some v ∈ lv → rf_ok σ v) → (∀ v ∈ st, rf_ok σ v) → ∀ v ∈ st', rf_ok σ v) (h : rf_W l k pc' lv st' σ ce sl Q) : rf_W l k pc lv st σ ce sl Q := by
  intro N0 H0 D cA bk p e s m args below meth c H locs ls h1 h2 h3 h4 h5 h6 h7 h8 h9
  exact hrow p e _ s m args below meth c H locs bk ls _ h1.1 h1.2.1 h6 (h N0 H0 D cA bk p e s m args below meth c H locs ls h1 h2 h3 h4 (hok h4 h5) h6 h7 h8 h9)
theorem rf_ok1 {x : Int32} (h : ∀ v ∈ r, rf_ok σ v) : ∀ v ∈ ((.inl x : rf_V) :: r), rf_ok σ v := fun v hv => (List.mem_cons.mp hv).elim (fun e => by subst e; trivial) (h v)
theorem rf_okl {x : Int64} (h : ∀ v ∈ r, rf_ok σ v) : ∀ v ∈ ((.inr (.inl x) : rf_V) :: r), rf_ok σ v := fun v hv => (List.mem_cons.mp hv).elim (fun e => by subst e; trivial) (h v)
theorem rf_okc {x : rf_V} (hx : rf_ok σ x) (h : ∀ v ∈ r, rf_ok σ v) : ∀ v ∈ (x :: r), rf_ok σ v := fun v hv => (List.mem_cons.mp hv).elim (fun e => by subst e; exact hx) (h v)
theorem rf_okt {x : rf_V} (h : ∀ v ∈ (x :: r), rf_ok σ v) : ∀ v ∈ r, rf_ok σ v := fun v hv => h v (List.mem_cons_of_mem _ hv)
/-- two ways on -/
theorem rf_fork {pt pf : Nat} {C : Prop} (hrow : ∀ (p : Program) (e : Env) (R : Room) (s : State) (m : MethodId) (args : Array Value) (below : List Frame) (meth : Method) (c : Code) (H : Heap) (locs : List Loc) (bk : Nat × Nat → Nat) (ls : Array Slot) (P : State → Prop), p.tables.exec = Jvm.exec → c.code = rf_cd k →
      (C → W p l e R s m args below meth c H locs ce sl P (F0 m pt ls (st'.map (rf_lo bk)))) → (¬ C → W p l e R s m args below meth c H locs ce sl P (F0 m pf ls (st'.map (rf_lo bk)))) → W p l e R s m args below meth c H locs ce sl P (F0 m pc ls (st.map (rf_lo bk))))
    (hok : (∀ v ∈ st, rf_ok σ v) → ∀ v ∈ st', rf_ok σ v) (ht : C → rf_W l k pt lv st' σ ce sl Q) (hf : ¬ C → rf_W l k pf lv st' σ ce sl Q) : rf_W l k pc lv st σ ce sl Q := by
  intro N0 H0 D cA bk p e s m args below meth c H locs ls h1 h2 h3 h4 h5 h6 h7 h8 h9
  exact hrow p e _ s m args below meth c H locs bk ls _ h1.1 h1.2.1 (fun hc => ht hc N0 H0 D cA bk p e s m args below meth c H locs ls h1 h2 h3 h4 (hok h5) h6 h7 h8 h9)
    (fun hc => hf hc N0 H0 D cA bk p e s m args below meth c H locs ls h1 h2 h3 h4 (hok h5) h6 h7 h8 h9)
/-- a local is set -/
theorem rf_store {i : Nat} {x : rf_V} (hc : rf_cat x = 1) (hi : i < rf_ml k) (hf : rf_free lv i = true) (hx : (∀ v, some v ∈ lv → rf_ok σ v) → (∀ v ∈ st, rf_ok σ v) → rf_ok σ x) (hr : (∀ v ∈ st, rf_ok σ v) → ∀ v ∈ r, rf_ok σ v)
    (hrow : ∀ (p : Program) (e : Env) (R : Room) (s : State) (m : MethodId) (args : Array Value) (below : List Frame) (meth : Method) (c : Code) (H : Heap) (locs : List Loc) (bk : Nat × Nat → Nat) (ls : Array Slot) (P : State → Prop), p.tables.exec = Jvm.exec → c.code = rf_cd k → lv_has ls (rf_ml k) (rf_ll bk 0 lv) →
      (∀ ls' : Array Slot, lv_has ls' (rf_ml k) ((i, rf_lo bk x) :: (rf_ll bk 0 lv).filter (fun q => !(q.1 == i) && !(q.1 + 1 == i && q.2.category == 2))) → W p l e R s m args below meth c H locs ce sl P (F0 m pc' ls' (r.map (rf_lo bk)))) → W p l e R s m args below meth c H locs ce sl P (F0 m pc ls (st.map (rf_lo bk))))
    (h : rf_W l k pc' (lv.set i (some x)) r σ ce sl Q) : rf_W l k pc lv st σ ce sl Q := by
  intro N0 H0 D cA bk p e s m args below meth c H locs ls h1 h2 h3 h4 h5 h6 h7 h8 h9
  refine hrow p e _ s m args below meth c H locs bk ls _ h1.1 h1.2.1 h6 fun ls' h' => ?_
  refine h N0 H0 D cA bk p e s m args below meth c H locs ls' h1 h2 h3 (fun v hv => ?_) (hr h5) (rf_lset hf h') (by rw [List.length_set]; exact h7) h8 h9
  rcases List.mem_or_eq_of_mem_set hv with hv | hv
  · exact h4 v hv
  · cases hv; exact hx h4 h5
theorem rf_store2 {i : Nat} {x : rf_V} (hi : i + 1 < rf_ml k) (hf : rf_free lv i = true) (hx : (∀ v ∈ st, rf_ok σ v) → rf_ok σ x) (hr : (∀ v ∈ st, rf_ok σ v) → ∀ v ∈ r, rf_ok σ v)
    (hrow : ∀ (p : Program) (e : Env) (R : Room) (s : State) (m : MethodId) (args : Array Value) (below : List Frame) (meth : Method) (c : Code) (H : Heap) (locs : List Loc) (bk : Nat × Nat → Nat) (ls : Array Slot) (P : State → Prop), p.tables.exec = Jvm.exec → c.code = rf_cd k → lv_has ls (rf_ml k) (rf_ll bk 0 lv) →
      (∀ ls' : Array Slot, lv_has ls' (rf_ml k) ((i, rf_lo bk x) :: (rf_ll bk 0 lv).filter (fun q => !(q.1 == i) && (!(q.1 == i + 1) && !(q.1 + 1 == i && q.2.category == 2)))) → W p l e R s m args below meth c H locs ce sl P (F0 m pc' ls' (r.map (rf_lo bk)))) → W p l e R s m args below meth c H locs ce sl P (F0 m pc ls (st.map (rf_lo bk))))
    (h : rf_W l k pc' ((lv.set i (some x)).set (i + 1) none) r σ ce sl Q) : rf_W l k pc lv st σ ce sl Q := by
  intro N0 H0 D cA bk p e s m args below meth c H locs ls h1 h2 h3 h4 h5 h6 h7 h8 h9
  refine hrow p e _ s m args below meth c H locs bk ls _ h1.1 h1.2.1 h6 fun ls' h' => ?_
  refine h N0 H0 D cA bk p e s m args below meth c H locs ls' h1 h2 h3 (fun v hv => ?_) (hr h5) (rf_lset2 hf h') (by rw [List.length_set, List.length_set]; exact h7) h8 h9
  rcases List.mem_or_eq_of_mem_set hv with hv | hv
  · rcases List.mem_or_eq_of_mem_set hv with hv | hv
    · exact h4 v hv
    · cases hv; exact hx h5
  · cases hv
end RFP
