/-! a cell of the picture; the heap holds the picture; the judgement -/
def rf_fs (bk : Nat × Nat → Nat) (σ : rf_S) (r : Nat × Nat) : Nat → List Nat → List Value
  | _, [] => []
  | j, t :: ts => (if t = 2 then va_rf ((σ.2.2.2.1 r.1 r.2 j).map (rf_ad bk)) else .int (σ.2.2.1 r.1 r.2 j)) :: rf_fs bk σ r (j + 1) ts
def rf_cf (cA : Nat → ClassId) (bk : Nat × Nat → Nat) (σ : rf_S) (r : Nat × Nat) : va_E :=
  match rf_ak r.1 with
  | some 0 => .inl (cA r.1, σ.2.1 r.1 r.2, .inl (σ.2.2.1 r.1 r.2))
  | some 1 => .inl (cA r.1, σ.2.1 r.1 r.2, .inr (.inl (σ.2.2.2.2 r.1 r.2)))
  | some _ => .inl (cA r.1, σ.2.1 r.1 r.2, .inr (.inr (.inr (.inr fun j => (σ.2.2.2.1 r.1 r.2 j).map (rf_ad bk)))))
  | none => .inr (r.1, rf_fs bk σ r 0 (rf_ft r.1))
def rf_wl (cA : Nat → ClassId) (bk : Nat × Nat → Nat) (σ : rf_S) (ks : List (Nat × Nat)) : va_W := ks.map fun r => (bk r, rf_cf cA bk σ r)
def rf_R (N0 : Nat) (H0 : Heap) (D : va_G) (cA : Nat → ClassId) (bk : Nat × Nat → Nat) (σ : rf_S) (s : State) (H : Heap) : Prop :=
  ∃ ks : List (Nat × Nat), ks.Nodup ∧ (∀ r : Nat × Nat, r ∈ ks ↔ r.1 ≠ rf_scr ∧ r.2 < σ.1 r.1) ∧ va_P D rf_cl (rf_wl cA bk σ ks) H ∧ va_D (fun q => N0 ≤ q) (rf_wl cA bk σ ks) ∧ va_S (fun q => N0 ≤ q) H0 H [] ∧
    (∀ r ∈ ks, ∀ j, (j < σ.2.1 r.1 r.2 ∨ j < (rf_ft r.1).length) → rf_ok σ (.inr (.inr (σ.2.2.2.1 r.1 r.2 j)))) ∧ (0 < σ.1 rf_scr → va_X (bk (rf_scr, 0)) (σ.2.1 rf_scr 0) (σ.2.2.1 rf_scr 0) s H0 ∧ bk (rf_scr, 0) < N0) ∧ va_K D rf_cl (rf_tys cA) s ∧ H0.size = N0
/-- what is known of the method k while it runs -/
def rf_Cx (l : Launch) (k N0 : Nat) (H0 : Heap) (p : Program) (s : State) (m : MethodId) (args : Array Value) (meth : Method) (c : Code) : Prop :=
  p.tables.exec = Jvm.exec ∧ c.code = rf_cd k ∧ c.maxLocals = rf_ml k ∧ s.vm.findClass (rf_nm k).cls = some m.cls ∧ (∀ w, w ∈ rf_tb0 → rf_gw w = true → w.before args s = true) ∧ meth.sig.returnType = rf_rt k ∧ meth.locks = false ∧ c.exceptionTable.toList.map (fun h => (h.startPc, h.endPc, h.handlerPc, h.catchType)) = rf_hh k ∧
    ((rf_nm k).name = "<init>" → meth.name = "<init>") ∧ l.stackTraces = false ∧ va_S (fun q => N0 ≤ q) H0 s.heap [] ∧ ∃ s0 : State, s0.vm.Alike s.vm ∧ s0.heap = H0 ∧ ∀ w ∈ rf_hw, w.before #[] s0 = true
/-- how the method has ended, in the machine and in the picture -/
def rf_oc (bk : Nat × Nat → Nat) (s t : State) : rf_O → Outcome → Prop
  | .inl v, o => o = .returned (v.map (rf_lo bk))
  | .inr x, o => ∃ (q : Addr) (ce : Cell), o = .threw q ∧ t.heap[q]? = some ce ∧ ce.vm = .none ∧ s.vm.findClass (rf_xn x) = some ce.cls
def rf_ov (σ : rf_S) : rf_O → Prop
  | .inl (some v) => rf_ok σ v
  | _ => True
def rf_Z (N0 : Nat) (H0 : Heap) (D : va_G) (cA : Nat → ClassId) (bk : Nat × Nat → Nat) (σ : rf_S) (s : State) (Q : rf_O → rf_S → Prop) : Outcome → State → Prop := fun o t =>
  ∃ (u : rf_O) (σ' : rf_S) (bk' : Nat × Nat → Nat), Q u σ' ∧ rf_oc bk' s t u o ∧ rf_ov σ' u ∧ rf_R N0 H0 D cA bk' σ' s t.heap ∧ rf_ex σ bk σ' bk'
def rf_W (l : Launch) (k pc : Nat) (lv : List (Option rf_V)) (st : List rf_V) (σ : rf_S) (ce sl : Nat) (Q : rf_O → rf_S → Prop) : Prop :=
  ∀ (N0 : Nat) (H0 : Heap) (D : va_G) (cA : Nat → ClassId) (bk : Nat × Nat → Nat) (p : Program) (e : Env) (s : State) (m : MethodId) (args : Array Value) (below : List Frame) (meth : Method) (c : Code) (H : Heap) (locs : List Loc) (ls : Array Slot),
    rf_Cx l k N0 H0 p s m args meth c → rf_R N0 H0 D cA bk σ s H → (∀ z ∈ locs, N0 ≤ z.base) → (∀ v, some v ∈ lv → rf_ok σ v) → (∀ v ∈ st, rf_ok σ v) → lv_has ls (rf_ml k) (rf_ll bk 0 lv) → lv.length = rf_ml k → ce ≤ rf_mc k → sl ≤ rf_ms k →
    W p l e (rf_rm k) s m args below meth c H locs ce sl (rf_B s below N0 (rf_mc k) (rf_ms k) (rf_Z N0 H0 D cA bk σ s Q)) (F0 m pc ls (st.map (rf_lo bk)))
theorem rf_W.mono {l : Launch} {k pc : Nat} {lv : List (Option rf_V)} {st : List rf_V} {σ : rf_S} {ce sl : Nat} {Q Q' : rf_O → rf_S → Prop} (h : rf_W l k pc lv st σ ce sl Q) (hq : ∀ u σ', Q u σ' → Q' u σ') : rf_W l k pc lv st σ ce sl Q' := by
  intro N0 H0 D cA bk p e s m args below meth c H locs ls h1 h2 h3 h4 h5 h6 h7 h8 h9 T hT X
  obtain ⟨t, a, o, L, b1, b2, b3, b4, b5, u, σ', bk', c1, c2⟩ := h N0 H0 D cA bk p e s m args below meth c H locs ls h1 h2 h3 h4 h5 h6 h7 h8 h9 T hT X
  exact ⟨t, a, o, L, b1, b2, b3, b4, b5, u, σ', bk', hq _ _ c1, c2⟩
/-- fewer locals known -/
theorem rf_W.forget {l : Launch} {k pc : Nat} {lv lv' : List (Option rf_V)} {st : List rf_V} {σ : rf_S} {ce sl : Nat} {Q : rf_O → rf_S → Prop} (h : rf_W l k pc lv' st σ ce sl Q) (hl : lv'.length = lv.length) (hs : ∀ (j : Nat) (x : rf_V), lv'[j]? = some (some x) → lv[j]? = some (some x)) : rf_W l k pc lv st σ ce sl Q := by
  intro N0 H0 D cA bk p e s m args below meth c H locs ls h1 h2 h3 h4 h5 h6 h7 h8 h9
  refine h N0 H0 D cA bk p e s m args below meth c H locs ls h1 h2 h3 (fun v hv => ?_) h5 ⟨h6.1, h6.2.1, fun q hq => ?_⟩ (hl.trans h7) h8 h9
  · obtain ⟨j, hj⟩ := List.getElem?_of_mem hv
    exact h4 v (List.mem_of_getElem? (hs j v hj))
  · obtain ⟨j, x, hj, hx⟩ := (rf_ll_mem _ 0).mp hq
    exact h6.2.2 q ((rf_ll_mem _ 0).mpr ⟨j, x, hs j x hj, hx⟩)
/-- a step of the picture: the book may have grown behind it -/
theorem rf_Z.grow {N0 : Nat} {H0 : Heap} {D : va_G} {cA : Nat → ClassId} {bk bk1 : Nat × Nat → Nat} {σ σ1 : rf_S} {s : State} {Q : rf_O → rf_S → Prop} (hx : rf_ex σ bk σ1 bk1) {o : Outcome} {t : State} (h : rf_Z N0 H0 D cA bk1 σ1 s Q o t) : rf_Z N0 H0 D cA bk σ s Q o t := by
  obtain ⟨u, σ', bk', h1, h2, h3, h4, h5⟩ := h
  exact ⟨u, σ', bk', h1, h2, h3, h4, hx.trans h5⟩
theorem rf_post {p : Program} {l : Launch} {e : Env} {R : Room} {s : State} {m : MethodId} {args : Array Value} {below : List Frame} {meth : Method} {c : Code} {H : Heap} {locs : List Loc} {cells slots : Nat} {Q Q' : State → Prop} {g : JFrame} (h : W p l e R s m args below meth c H locs cells slots Q g) (hq : ∀ t, Q t → Q' t) : W p l e R s m args below meth c H locs cells slots Q' g := by
  intro T hT X
  obtain ⟨t, a, b⟩ := h T hT X
  exact ⟨t, a, hq t b⟩
theorem rf_B.mono {s' : State} {below' : List Frame} {N0 mc ms : Nat} {Z Z' : Outcome → State → Prop} (hz : ∀ o t, Z o t → Z' o t) {t : State} (h : rf_B s' below' N0 mc ms Z t) : rf_B s' below' N0 mc ms Z' t := by
  obtain ⟨o, L, b1, b2, b3, b4, b5, b6⟩ := h
  exact ⟨o, L, b1, b2, b3, b4, b5, hz _ _ b6⟩
/-- the locals at the entry -/
def rf_ent (k : Nat) (as : List rf_V) : List (Option rf_V) := as.map some ++ List.replicate (rf_ml k - as.length) none
/-- the method k, called with as -/
def rf_C (l : Launch) (k : Nat) (as : List rf_V) (σ : rf_S) (Q : rf_O → rf_S → Prop) : Prop :=
  ∀ (N0 : Nat) (H0 : Heap) (D : va_G) (cA : Nat → ClassId) (bk : Nat × Nat → Nat) (p : Program) (e : Env) (s : State) (m : MethodId) (args : Array Value) (below : List Frame) (meth : Method) (c : Code) (ls : Array Slot),
    rf_Cx l k N0 H0 p s m args meth c → rf_R N0 H0 D cA bk σ s s.heap → (∀ v ∈ as, rf_ok σ v) → as.length ≤ rf_ml k → lv_has ls (rf_ml k) (rf_ll bk 0 (rf_ent k as)) →
    W p l e (rf_rm k) s m args below meth c s.heap [] 0 0 (rf_B s below N0 (rf_mc k) (rf_ms k) (rf_Z N0 H0 D cA bk σ s Q)) (F0 m 0 ls [])
theorem rf_C.ofW {l : Launch} {k : Nat} {as : List rf_V} {σ : rf_S} {Q : rf_O → rf_S → Prop} (h : rf_W l k 0 (rf_ent k as) [] σ 0 0 Q) : rf_C l k as σ Q := by
  intro N0 H0 D cA bk p e s m args below meth c ls h1 h2 h3 h4 h5
  refine h N0 H0 D cA bk p e s m args below meth c s.heap [] ls h1 h2 (fun _ hz => nomatch hz) (fun v hv => ?_) (fun _ hv => nomatch hv) h5 ?_ (Nat.zero_le _) (Nat.zero_le _)
  · simp only [rf_ent, List.mem_append, List.mem_map, List.mem_replicate] at hv
    rcases hv with ⟨w, hw, e1⟩ | ⟨-, e1⟩
    · cases e1; exact h3 _ hw
    · cases e1
  · simp only [rf_ent, List.length_append, List.length_map, List.length_replicate]
    omega
theorem rf_C.mono {l : Launch} {k : Nat} {as : List rf_V} {σ : rf_S} {Q Q' : rf_O → rf_S → Prop} (h : rf_C l k as σ Q) (hq : ∀ u σ', Q u σ' → Q' u σ') : rf_C l k as σ Q' := by
  intro N0 H0 D cA bk p e s m args below meth c ls h1 h2 h3 h4 h5 T hT X
  obtain ⟨t, a, o, L, b1, b2, b3, b4, b5, u, σ', bk', c1, c2⟩ := h N0 H0 D cA bk p e s m args below meth c ls h1 h2 h3 h4 h5 T hT X
  exact ⟨t, a, o, L, b1, b2, b3, b4, b5, u, σ', bk', hq _ _ c1, c2⟩
