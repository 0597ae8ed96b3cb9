/-! calls seen from inside: the callee's body is walked over the caller's frame; a return, a throw come back -/
def rf_Go (p : Program) (l : Launch) (e : Env) (R : Room) (s : State) (m : MethodId) (args : Array Value) (below : List Frame) (meth : Method) (c : Code) (H : Heap) (locs : List Loc) (cells slots : Nat) (g : JFrame) (rest : List Value) (y : MethodName) (a : Array Value) : Prop :=
  ∀ T : State, T.heap = H → Stand p l e R s m args below meth c T locs cells slots → ∃ (vm₁ : Vm) (mk : MethodId), Stand p l e R s m args below meth c (T.setVm vm₁) locs cells slots ∧ s.methodNamed? y = some mk ∧
    ∀ target, (∀ acts, Steps p.tables e below (doInvoke e ((T.setVm vm₁).setTop { g with stack := rest }) acts mk a).1 target) → Steps p.tables e below (T.setTop g) target
/-- the frame g, over it q thrown -/
def rf_X (p : Program) (l : Launch) (e : Env) (R : Room) (s : State) (m : MethodId) (args : Array Value) (below : List Frame) (meth : Method) (c : Code) (H : Heap) (locs : List Loc) (cells slots : Nat) (Q : State → Prop) (g : JFrame) (q : Addr) : Prop :=
  ∀ T : State, T.heap = H → Stand p l e R s m args below meth c T locs cells slots → ∃ t, Steps p.tables e below ((T.setTop g).pushFrame (.throwing q)) t ∧ Q t
theorem rf_steps_forget {tb : Tables} {e : Env} {s t : State} {f : Frame} {below : List Frame} (h : Steps tb e (f :: below) s t) : Steps tb e below s t := by
  obtain ⟨n, hn, hw⟩ := h
  exact ⟨n, hn, fun k hk => Within.weaken (mid := [f]) (hw k hk)⟩
theorem rf_codeWith {args : Array Value} {s : State} {y : MethodName} {b : ByteArray} {n : Nat} {r : Option FieldType} (h : (Cond.code y b n r).before args s = true) : (Cond.codeWith y b n r []).before args s = true := by
  unfold Cond.before Cond.holds at h ⊢
  rw [← Cond.code_iff_codeWith_nil]
  exact h
section RFM
variable {p : Program} {l : Launch} {e : Env} {R : Room} {s : State} {m : MethodId} {args : Array Value} {below : List Frame} {meth : Method} {c : Code} {H : Heap} {locs : List Loc} {cells slots : Nat} {Q : State → Prop}
variable {cc bytes : ByteArray} {own : String} {index maxL n : Nat} {y : MethodName} {ret : Option FieldType} {hh : List (Nat × Nat × Nat × Nat)} {g : JFrame} {As rest : List Value} {b : Addr}
theorem rf_goS (hexec : p.tables.exec = Jvm.exec) (hb : c.code = cc) (hown : s.vm.findClass own = some m.cls) (hlink : (Cond.methodLink own index y).before args s = true) (hstat : (Cond.static y).before args s = true) (hinit : (Cond.initialized y.cls).before args s = true)
    (hcode : (Cond.codeWith y bytes maxL ret hh).before args s = true) (hy : y.cls ≠ "java/lang/invoke/MethodHandle" ∧ y.cls ≠ "java/lang/invoke/VarHandle") (hlen : (parseMethodDescriptor y.desc).map (fun d => d.parameters.length) = some n)
    (hg : g.method = m) (hn : As.length = n) (hstack : g.stack = As.reverse ++ rest) (hdg : decode cc g.pc = .ok (.invokestatic index, 3)) :
    rf_Go p l e R s m args below meth c H locs cells slots g rest y As.toArray := by
  intro T hT X
  obtain ⟨mk, methM, cM, hnamed, hmethM, -, -, -, -, -, -, hsigM⟩ := Cond.codeWith_spec hcode
  have hstatic : methM.isStatic = true := Cond.static_spec hnamed hmethM hstat
  obtain ⟨kP, hkP, -⟩ := className_of_methodNamed hnamed
  have hinitP : kP.init = .initialized := Cond.initialized_spec (findClass_of_methodNamed hnamed) hkP hinit
  rw [hsigM] at hlen
  have hl2 : methM.sig.parameters.length = n := Option.some.inj hlen
  obtain ⟨vm₁, X₁, hstep₁⟩ := X.invokestatic hexec hown hlink hnamed hmethM hstatic hkP hinitP hy (g := g) hg (argsL := As) (rest := rest) (hn.trans hl2.symm) hstack (by rw [hb]; exact hdg)
  exact ⟨vm₁, mk, X₁, hnamed, hstep₁⟩
theorem rf_goV {C : String} (hexec : p.tables.exec = Jvm.exec) (hb : c.code = cc) (hown : s.vm.findClass own = some m.cls) (hlink : (Cond.methodLink own index y).before args s = true) (hinst : (Cond.instanceMethod y).before args s = true) (hsel : (Cond.selects C y y).before args s = true)
    (hcode : (Cond.codeWith y bytes maxL ret hh).before args s = true) (hy : y.cls ≠ "java/lang/invoke/MethodHandle" ∧ y.cls ≠ "java/lang/invoke/VarHandle") (hlen : (parseMethodDescriptor y.desc).map (fun d => d.parameters.length) = some n)
    (hrec : ∃ cellB : Cell, H[b]? = some cellB ∧ cellB.vm.isStatics = false ∧ s.vm.findClass C = some cellB.cls)
    (hg : g.method = m) (hn : As.length = n) (hstack : g.stack = As.reverse ++ .ref b :: rest) (hdg : decode cc g.pc = .ok (.invokevirtual index, 3)) :
    rf_Go p l e R s m args below meth c H locs cells slots g rest y (Value.ref b :: As).toArray := by
  intro T hT X
  obtain ⟨cellB, hcell, hobj, hcls⟩ := hrec
  obtain ⟨mk, methM, hnamed, hmethM, hstM, habM⟩ := Cond.instanceMethod_spec hinst
  obtain ⟨mk', methM', cM, hnamed', hmethM', -, -, -, -, -, -, hsigM⟩ := Cond.codeWith_spec hcode
  cases hnamed.symm.trans hnamed'
  cases hmethM.symm.trans hmethM'
  obtain ⟨c2, r2, m2, q1, q2, q3, q4, kP, hkP, hkPi⟩ := Cond.selects_spec hsel
  cases hcls.symm.trans q1
  cases (State.methodFound?_of_named hnamed hy).symm.trans q2
  cases hnamed.symm.trans q3
  have hselP : selectMethod e.platform s.vm cellB.cls mk = .method mk := by rw [Launch.admits_selectMethod X.admits]; exact q4
  rw [hsigM] at hlen
  have hl2 : methM.sig.parameters.length = n := Option.some.inj hlen
  obtain ⟨vm₁, X₁, hstep₁⟩ := X.invokevirtual hexec hown hlink hnamed hmethM hstM hkP hkPi hy (a := b) (cell := cellB) (by rw [hT]; exact hcell)
    (fun z h => by rw [h] at hobj; cases hobj) hselP hmethM habM hkP hkPi (g := g) hg (argsL := As) (rest := rest) (hn.trans hl2.symm) hstack (by rw [hb]; exact hdg)
  exact ⟨vm₁, mk, X₁, hnamed, hstep₁⟩
theorem rf_goI (hexec : p.tables.exec = Jvm.exec) (hb : c.code = cc) (hown : s.vm.findClass own = some m.cls) (hy1 : y.name = "<init>") (hlink : (Cond.methodLink own index y).before args s = true) (hinst : (Cond.instanceMethod y).before args s = true)
    (hcode : (Cond.code y bytes maxL none).before args s = true) (hy : y.cls ≠ "java/lang/invoke/MethodHandle" ∧ y.cls ≠ "java/lang/invoke/VarHandle") (hlen : (parseMethodDescriptor y.desc).map (fun d => d.parameters.length) = some n)
    (hg : g.method = m) (hn : As.length = n) (hstack : g.stack = As.reverse ++ .ref b :: rest) (hdg : decode cc g.pc = .ok (.invokespecial index, 3)) :
    rf_Go p l e R s m args below meth c H locs cells slots g rest y (Value.ref b :: As).toArray := by
  intro T hT X
  have hpl : e.platform.magicAccessors = ({} : Platform).magicAccessors := by rw [X.admits.platform]
  subst hg; subst hb
  obtain ⟨mk, methM, cM, kP, vm₁, hnamed, -, -, -, -, -, -, -, hW₁, hstep₁⟩ := Steps.initColdArgs (e := e) X.here hexec X.warmed hpl hown hy1 hy hlink hinst hcode (f := g) rfl
    (fun sig h => by rw [h] at hlen; exact hn.trans (Option.some.inj hlen).symm) hstack hdg
  exact ⟨vm₁, mk, X.noted hW₁, hnamed, hstep₁⟩
theorem rf_goIN {host : String} (hexec : p.tables.exec = Jvm.exec) (hb : c.code = cc) (hown : s.vm.findClass own = some m.cls) (hy1 : y.name = "<init>") (hlink : (Cond.methodLinkNest own index y host).before args s = true) (hinst : (Cond.instanceMethod y).before args s = true)
    (hcode : (Cond.code y bytes maxL none).before args s = true) (hy : y.cls ≠ "java/lang/invoke/MethodHandle" ∧ y.cls ≠ "java/lang/invoke/VarHandle") (hlen : (parseMethodDescriptor y.desc).map (fun d => d.parameters.length) = some n)
    (hg : g.method = m) (hn : As.length = n) (hstack : g.stack = As.reverse ++ .ref b :: rest) (hdg : decode cc g.pc = .ok (.invokespecial index, 3)) :
    rf_Go p l e R s m args below meth c H locs cells slots g rest y (Value.ref b :: As).toArray := by
  intro T hT X
  have hpl : e.platform.magicAccessors = ({} : Platform).magicAccessors := by rw [X.admits.platform]
  subst hg; subst hb
  obtain ⟨mk, methM, cM, kP, vm₁, hnamed, -, -, -, -, -, -, -, hW₁, hstep₁⟩ := Steps.initColdArgsNest (e := e) X.here hexec X.warmed hpl hown hy1 hy hlink hinst hcode (f := g) rfl
    (fun sig h => by rw [h] at hlen; exact hn.trans (Option.some.inj hlen).symm) hstack hdg
  exact ⟨vm₁, mk, X.noted hW₁, hnamed, hstep₁⟩
/-- the callee's end: it has returned or thrown; its frame's bounds; Z says the rest -/
def rf_B (s' : State) (below' : List Frame) (N0 mc ms : Nat) (Z : Outcome → State → Prop) : State → Prop := fun t =>
  ∃ (o : Outcome) (L : List Loc), t.status = .running ∧ Ended t below' o ∧ s'.WarmedH t.vm ∧ s'.sameButNew ({ t with vm := s'.vm } : State) L mc ms ∧ (∀ z ∈ L, N0 ≤ z.base) ∧ Z o t
theorem rf_into {R' : Room} {a : Array Value} {ig : Instr} {Z : Outcome → State → Prop} {N0 mc ms : Nat}
    (hG : rf_Go p l e R s m args below meth c H locs cells slots g rest y a) (hb : c.code = cc) (hy : plainFor y = true) (hwarm : ∀ U : State, s.WarmedH U.vm → (Cond.codeWith y bytes maxL ret hh).before a U = true)
    (hg : g.method = m) (hsize : g.locals.size = c.maxLocals) (hdg : decode cc g.pc = .ok (ig, 3)) (hW : 2 * g.monitorRoom + (rest.map fun v => v.category).sum ≤ 8)
    (hfr : R'.frames + 1 ≤ R.frames) (hlo : 8 + (maxL + 11) + R'.locals ≤ R.locals) (hce : cells + mc ≤ R.cells) (hsl : slots + ms ≤ R.slots) (hrc : R'.cells = mc) (hrs : R'.slots = ms)
    (body : ∀ (s' : State) (mk : MethodId) (methk : Method) (ck : Code), s'.heap = H → s.WarmedH s'.vm → s'.methodNamed? y = some mk → s'.vm.method? mk = some methk → ck.code = bytes → ck.maxLocals = maxL →
      ck.exceptionTable.toList.map (fun h => (h.startPc, h.endPc, h.handlerPc, h.catchType)) = hh → methk.sig.returnType = ret → methk.locks = false →
      W p l e R' s' mk a (.java { g with stack := rest } :: below) methk ck H [] 0 0 (rf_B s' (.java { g with stack := rest } :: below) N0 mc ms Z) (entryFrame mk a maxL))
    (kr : ∀ (t : State) (v : Option Value) (L : List Loc), Z (.returned v) t → (∀ z ∈ L, N0 ≤ z.base) → s.WarmedH t.vm → W p l e R s m args below meth c t.heap (locs ++ L) (cells + mc) (slots + ms) Q { g with pc := g.pc + 3, stack := v.toList ++ rest })
    (kx : ∀ (t : State) (q : Addr) (L : List Loc), Z (.threw q) t → (∀ z ∈ L, N0 ≤ z.base) → s.WarmedH t.vm → rf_X p l e R s m args below meth c t.heap (locs ++ L) (cells + mc) (slots + ms) Q { g with stack := rest } q) :
    W p l e R s m args below meth c H locs cells slots Q g := by
  intro T hT X
  obtain ⟨vm₁, mk, X₁, hn, hst⟩ := hG T hT X
  obtain ⟨mk', methk, ck, hn', hmk, hck, hbk, hlk, htb, hrk, hlocks, -⟩ := Cond.codeWith_spec (hwarm (T.setVm vm₁) X₁.warmed)
  cases Option.some.inj (hn'.symm.trans (X₁.named hn))
  have hplain := State.plainMethod.of_named hy hn' hmk
  subst hlk
  obtain ⟨Y, hin⟩ := X₁.into (g := { g with stack := rest }) hg hsize (by rw [hb]; exact hdg) a (R' := R') hmk hck hlocks hplain hfr
    (by show 2 * g.monitorRoom + (rest.map fun v => v.category).sum + (ck.maxLocals + 11) + R'.locals ≤ R.locals; omega) (by rw [hrc]; exact hce) (by rw [hrs]; exact hsl)
  have hheap : (((T.setVm vm₁).setTop { g with stack := rest }).pushFrame (.java (entryFrame mk a ck.maxLocals))).heap = H := hT
  obtain ⟨t, st, o, L, hrun, hend, hWk, hsame, hL, hZ⟩ := body ((T.setVm vm₁).calling { g with stack := rest } mk a) mk methk ck hT X₁.warmed hn' hmk hbk rfl htb hrk hlocks _ hheap Y
  cases o with
  | returned v =>
    obtain ⟨T2, X2, hW2, hs2, ht⟩ := X₁.outOf (g := { g with stack := rest }) hg (by rw [hb]; exact hdg) hend hWk hsame
    have hh2 : T2.heap = t.heap := by rw [ht]; rfl
    have hv2 : T2.vm = t.vm := by rw [ht]; rfl
    obtain ⟨u, a1, b1⟩ := kr t v L hZ hL (by rw [← hv2]; exact X2.warmed) T2 hh2 X2
    refine ⟨u, hst u (fun acts => ?_), b1⟩
    rw [hin acts]
    have h3 := rf_steps_forget st
    rw [ht] at h3
    exact h3.trans a1
  | threw q =>
    obtain ⟨T2, X2, hW2, hs2, ht⟩ := X₁.outOfThrown (g := { g with stack := rest }) hg hend hWk hsame
    have hh2 : T2.heap = t.heap := by rw [ht]; rfl
    have hv2 : T2.vm = t.vm := by rw [ht]; rfl
    obtain ⟨u, a1, b1⟩ := kx t q L hZ hL (by rw [← hv2]; exact X2.warmed) T2 hh2 X2
    refine ⟨u, hst u (fun acts => ?_), b1⟩
    rw [hin acts]
    have h3 := rf_steps_forget st
    rw [ht] at h3
    exact h3.trans a1
/-- not caught here: the method ends with it -/
theorem rf_out {pc : Nat} {ls : Array Slot} {q : Addr} {N0 mc ms : Nat} {Z : Outcome → State → Prop} (hout : ∀ x ∈ c.exceptionTable.toList, covers x pc = false) (hlocks : meth.locks = false) (hL : ∀ z ∈ locs, N0 ≤ z.base) (hc : cells ≤ mc) (hs : slots ≤ ms)
    (hz : ∀ t : State, t.heap = H → s.WarmedH t.vm → Z (.threw q) t) :
    rf_X p l e R s m args below meth c H locs cells slots (rf_B s below N0 mc ms Z) (F0 m pc ls rest) q := by
  intro T hT X
  obtain ⟨st1, hrun, hend, hW, hsm⟩ := X.leaveThrown q (g := F0 m pc ls rest) rfl rfl rfl hout hlocks
  exact ⟨_, st1, .threw q, locs, hrun, hend, hW, hsm.mono hc hs, hL, hz _ hT hW⟩
end RFM
