/-! each step of the picture is a step of the machine: the pure ones -/
section RFS
variable {l : Launch} {k pc : Nat} {N : Nat → List (Option rf_V) → List rf_V → rf_S → Nat → Nat → Prop} {lv : List (Option rf_V)} {st : List rf_V} {σ : rf_S} {ce sl : Nat} {Q : rf_O → rf_S → Prop} {len a b : Nat} {v : Int32}
theorem rf_s_iconst (hN : ∀ pc lv st σ ce sl, N pc lv st σ ce sl → rf_W l k pc lv st σ ce sl Q) {n : Int} (hd : decode (rf_cd k) pc = .ok (.iconst n, len)) (hn : len = 1) (hc : Int32.ofInt n = v) (h : rf_step l k N Q pc (.iconst n, len, a, b, v) lv st σ ce sl) : rf_W l k pc lv st σ ce sl Q := by
  subst hn
  exact rf_pure (fun p e R s m args below meth c H locs bk ls P hx hb hl w => lv_iconst hx hb hd hc w) (fun _ h => rf_ok1 h) (hN _ _ _ _ _ _ h)
theorem rf_s_bipush (hN : ∀ pc lv st σ ce sl, N pc lv st σ ce sl → rf_W l k pc lv st σ ce sl Q) {n : Int} (hd : decode (rf_cd k) pc = .ok (.bipush n, len)) (hn : len = 2) (hc : (Int8.ofInt n).toInt32 = v) (h : rf_step l k N Q pc (.bipush n, len, a, b, v) lv st σ ce sl) : rf_W l k pc lv st σ ce sl Q := by
  subst hn
  exact rf_pure (fun p e R s m args below meth c H locs bk ls P hx hb hl w => lv_bipush hx hb hd hc w) (fun _ h => rf_ok1 h) (hN _ _ _ _ _ _ h)
theorem rf_s_sipush (hN : ∀ pc lv st σ ce sl, N pc lv st σ ce sl → rf_W l k pc lv st σ ce sl Q) {n : Int} (hd : decode (rf_cd k) pc = .ok (.sipush n, len)) (hn : len = 3) (hc : (Int16.ofInt n).toInt32 = v) (h : rf_step l k N Q pc (.sipush n, len, a, b, v) lv st σ ce sl) : rf_W l k pc lv st σ ce sl Q := by
  subst hn
  exact rf_pure (fun p e R s m args below meth c H locs bk ls P hx hb hl w => lv_sipush hx hb hd hc w) (fun _ h => rf_ok1 h) (hN _ _ _ _ _ _ h)
theorem rf_s_iload (hN : ∀ pc lv st σ ce sl, N pc lv st σ ce sl → rf_W l k pc lv st σ ce sl Q) (hd : decode (rf_cd k) pc = .ok (.iload a, len)) (hn : len = 2) (h : rf_step l k N Q pc (.iload a, len, a, b, v) lv st σ ce sl) : rf_W l k pc lv st σ ce sl Q := by
  subst hn
  cases hq : rf_nth lv a with
  | none => simp only [rf_step, hq] at h
  | some y =>
    rcases y with _ | x | y | y
    all_goals simp only [rf_step, hq] at h
    exact rf_pure (fun p e R s m args below meth c H locs bk ls P hx hb hl w => lv_iload hx hb hd (rf_lat hl hq) w) (fun hlv h => rf_ok1 h) (hN _ _ _ _ _ _ h)
theorem rf_s_iload_n (hN : ∀ pc lv st σ ce sl, N pc lv st σ ce sl → rf_W l k pc lv st σ ce sl Q) {n : Fin 4} (hd : decode (rf_cd k) pc = .ok (.iload_n n, len)) (hn : len = 1) (hc : (n : Nat) = a) (h : rf_step l k N Q pc (.iload_n n, len, a, b, v) lv st σ ce sl) : rf_W l k pc lv st σ ce sl Q := by
  subst hn
  cases hq : rf_nth lv a with
  | none => simp only [rf_step, hq] at h
  | some y =>
    rcases y with _ | x | y | y
    all_goals simp only [rf_step, hq] at h
    exact rf_pure (fun p e R s m args below meth c H locs bk ls P hx hb hl w => lv_iload_n hx hb hd hc (rf_lat hl hq) w) (fun hlv h => rf_ok1 h) (hN _ _ _ _ _ _ h)
theorem rf_s_aload (hN : ∀ pc lv st σ ce sl, N pc lv st σ ce sl → rf_W l k pc lv st σ ce sl Q) (hd : decode (rf_cd k) pc = .ok (.aload a, len)) (hn : len = 2) (h : rf_step l k N Q pc (.aload a, len, a, b, v) lv st σ ce sl) : rf_W l k pc lv st σ ce sl Q := by
  subst hn
  cases hq : rf_nth lv a with
  | none => simp only [rf_step, hq] at h
  | some y =>
    rcases y with _ | x | y | _ | y
    all_goals simp only [rf_step, hq] at h
    exact rf_pure (fun p e R s m args below meth c H locs bk ls P hx hb hl w => lv_aload hx hb hd (rf_lat hl hq) w) (fun hlv h => rf_okc (hlv _ (List.mem_of_getElem? ((rf_nth_eq _ _).symm.trans hq))) h) (hN _ _ _ _ _ _ h)
theorem rf_s_aload_n (hN : ∀ pc lv st σ ce sl, N pc lv st σ ce sl → rf_W l k pc lv st σ ce sl Q) {n : Fin 4} (hd : decode (rf_cd k) pc = .ok (.aload_n n, len)) (hn : len = 1) (hc : (n : Nat) = a) (h : rf_step l k N Q pc (.aload_n n, len, a, b, v) lv st σ ce sl) : rf_W l k pc lv st σ ce sl Q := by
  subst hn
  cases hq : rf_nth lv a with
  | none => simp only [rf_step, hq] at h
  | some y =>
    rcases y with _ | x | y | _ | y
    all_goals simp only [rf_step, hq] at h
    exact rf_pure (fun p e R s m args below meth c H locs bk ls P hx hb hl w => lv_aload_n hx hb hd hc (rf_lat hl hq) w) (fun hlv h => rf_okc (hlv _ (List.mem_of_getElem? ((rf_nth_eq _ _).symm.trans hq))) h) (hN _ _ _ _ _ _ h)
theorem rf_s_lload (hN : ∀ pc lv st σ ce sl, N pc lv st σ ce sl → rf_W l k pc lv st σ ce sl Q) (hd : decode (rf_cd k) pc = .ok (.lload a, len)) (hn : len = 2) (h : rf_step l k N Q pc (.lload a, len, a, b, v) lv st σ ce sl) : rf_W l k pc lv st σ ce sl Q := by
  subst hn
  cases hq : rf_nth lv a with
  | none => simp only [rf_step, hq] at h
  | some y =>
    rcases y with _ | x | y | y
    all_goals simp only [rf_step, hq] at h
    exact rf_pure (fun p e R s m args below meth c H locs bk ls P hx hb hl w => lv_lload hx hb hd (rf_lat hl hq) w) (fun hlv h => rf_okl h) (hN _ _ _ _ _ _ h)
theorem rf_s_lload_n (hN : ∀ pc lv st σ ce sl, N pc lv st σ ce sl → rf_W l k pc lv st σ ce sl Q) {n : Fin 4} (hd : decode (rf_cd k) pc = .ok (.lload_n n, len)) (hn : len = 1) (hc : (n : Nat) = a) (h : rf_step l k N Q pc (.lload_n n, len, a, b, v) lv st σ ce sl) : rf_W l k pc lv st σ ce sl Q := by
  subst hn
  cases hq : rf_nth lv a with
  | none => simp only [rf_step, hq] at h
  | some y =>
    rcases y with _ | x | y | y
    all_goals simp only [rf_step, hq] at h
    exact rf_pure (fun p e R s m args below meth c H locs bk ls P hx hb hl w => lv_lload_n hx hb hd hc (rf_lat hl hq) w) (fun hlv h => rf_okl h) (hN _ _ _ _ _ _ h)
theorem rf_s_istore (hN : ∀ pc lv st σ ce sl, N pc lv st σ ce sl → rf_W l k pc lv st σ ce sl Q) (hd : decode (rf_cd k) pc = .ok (.istore a, len)) (hn : len = 2) (ha : a < rf_ml k) (h : rf_step l k N Q pc (.istore a, len, a, b, v) lv st σ ce sl) : rf_W l k pc lv st σ ce sl Q := by
  subst hn
  cases hf : rf_free lv a with
  | false => rcases st with _ | ⟨x | x, r⟩ <;> simp only [rf_step, hf] at h
  | true =>
    rcases st with _ | ⟨x | x, r⟩
    all_goals simp only [rf_step, hf] at h
    exact rf_store rfl ha hf (fun _ h => h _ List.mem_cons_self) (fun h => rf_okt h) (fun p e R s m args below meth c H locs bk ls P hx hb hl w => lv_istore hx hb hd hl ha rfl w) (hN _ _ _ _ _ _ h)
theorem rf_s_istore_n (hN : ∀ pc lv st σ ce sl, N pc lv st σ ce sl → rf_W l k pc lv st σ ce sl Q) {n : Fin 4} (hd : decode (rf_cd k) pc = .ok (.istore_n n, len)) (hn : len = 1) (hc : (n : Nat) = a) (ha : a < rf_ml k) (h : rf_step l k N Q pc (.istore_n n, len, a, b, v) lv st σ ce sl) : rf_W l k pc lv st σ ce sl Q := by
  subst hn
  cases hf : rf_free lv a with
  | false => rcases st with _ | ⟨x | x, r⟩ <;> simp only [rf_step, hf] at h
  | true =>
    rcases st with _ | ⟨x | x, r⟩
    all_goals simp only [rf_step, hf] at h
    exact rf_store rfl ha hf (fun _ h => h _ List.mem_cons_self) (fun h => rf_okt h) (fun p e R s m args below meth c H locs bk ls P hx hb hl w => lv_istore_n hx hb hd hc hl ha rfl w) (hN _ _ _ _ _ _ h)
theorem rf_s_astore (hN : ∀ pc lv st σ ce sl, N pc lv st σ ce sl → rf_W l k pc lv st σ ce sl Q) (hd : decode (rf_cd k) pc = .ok (.astore a, len)) (hn : len = 2) (ha : a < rf_ml k) (h : rf_step l k N Q pc (.astore a, len, a, b, v) lv st σ ce sl) : rf_W l k pc lv st σ ce sl Q := by
  subst hn
  cases hf : rf_free lv a with
  | false => rcases st with _ | ⟨x | x | _ | x, r⟩ <;> simp only [rf_step, hf] at h
  | true =>
    rcases st with _ | ⟨x | x | _ | x, r⟩
    all_goals simp only [rf_step, hf] at h
    exact rf_store rfl ha hf (fun _ h => h _ List.mem_cons_self) (fun h => rf_okt h) (fun p e R s m args below meth c H locs bk ls P hx hb hl w => lv_astore hx hb hd hl ha rfl w) (hN _ _ _ _ _ _ h)
theorem rf_s_astore_n (hN : ∀ pc lv st σ ce sl, N pc lv st σ ce sl → rf_W l k pc lv st σ ce sl Q) {n : Fin 4} (hd : decode (rf_cd k) pc = .ok (.astore_n n, len)) (hn : len = 1) (hc : (n : Nat) = a) (ha : a < rf_ml k) (h : rf_step l k N Q pc (.astore_n n, len, a, b, v) lv st σ ce sl) : rf_W l k pc lv st σ ce sl Q := by
  subst hn
  cases hf : rf_free lv a with
  | false => rcases st with _ | ⟨x | x | _ | x, r⟩ <;> simp only [rf_step, hf] at h
  | true =>
    rcases st with _ | ⟨x | x | _ | x, r⟩
    all_goals simp only [rf_step, hf] at h
    exact rf_store rfl ha hf (fun _ h => h _ List.mem_cons_self) (fun h => rf_okt h) (fun p e R s m args below meth c H locs bk ls P hx hb hl w => lv_astore_n hx hb hd hc hl ha rfl w) (hN _ _ _ _ _ _ h)
theorem rf_s_lstore (hN : ∀ pc lv st σ ce sl, N pc lv st σ ce sl → rf_W l k pc lv st σ ce sl Q) (hd : decode (rf_cd k) pc = .ok (.lstore a, len)) (hn : len = 2) (ha : a + 1 < rf_ml k) (h : rf_step l k N Q pc (.lstore a, len, a, b, v) lv st σ ce sl) : rf_W l k pc lv st σ ce sl Q := by
  subst hn
  cases hf : rf_free lv a with
  | false => rcases st with _ | ⟨x | x | x, r⟩ <;> simp only [rf_step, hf] at h
  | true =>
    rcases st with _ | ⟨x | x | x, r⟩
    all_goals simp only [rf_step, hf] at h
    exact rf_store2 ha hf (fun h => h _ List.mem_cons_self) (fun h => rf_okt h) (fun p e R s m args below meth c H locs bk ls P hx hb hl w => lv_lstore hx hb hd hl ha rfl w) (hN _ _ _ _ _ _ h)
theorem rf_s_lstore_n (hN : ∀ pc lv st σ ce sl, N pc lv st σ ce sl → rf_W l k pc lv st σ ce sl Q) {n : Fin 4} (hd : decode (rf_cd k) pc = .ok (.lstore_n n, len)) (hn : len = 1) (hc : (n : Nat) = a) (ha : a + 1 < rf_ml k) (h : rf_step l k N Q pc (.lstore_n n, len, a, b, v) lv st σ ce sl) : rf_W l k pc lv st σ ce sl Q := by
  subst hn
  cases hf : rf_free lv a with
  | false => rcases st with _ | ⟨x | x | x, r⟩ <;> simp only [rf_step, hf] at h
  | true =>
    rcases st with _ | ⟨x | x | x, r⟩
    all_goals simp only [rf_step, hf] at h
    exact rf_store2 ha hf (fun h => h _ List.mem_cons_self) (fun h => rf_okt h) (fun p e R s m args below meth c H locs bk ls P hx hb hl w => lv_lstore_n hx hb hd hc hl ha rfl w) (hN _ _ _ _ _ _ h)
theorem rf_s_iinc (hN : ∀ pc lv st σ ce sl, N pc lv st σ ce sl → rf_W l k pc lv st σ ce sl Q) {n : Int} (hd : decode (rf_cd k) pc = .ok (.iinc a n, len)) (hn : len = 3) (hc : Int32.ofInt n = v) (ha : a < rf_ml k) (h : rf_step l k N Q pc (.iinc a n, len, a, b, v) lv st σ ce sl) : rf_W l k pc lv st σ ce sl Q := by
  subst hn
  subst hc
  cases hq : rf_nth lv a with
  | none => simp only [rf_step, hq] at h
  | some y =>
    rcases y with _ | x | y
    all_goals simp only [rf_step, hq] at h
    cases hf : rf_free lv a with
    | false => simp only [hf] at h
    | true =>
      simp only [hf] at h
      refine rf_store (x := .inl (x + Int32.ofInt n)) rfl ha hf (fun _ _ => trivial) (fun h => h) (fun p e R s m args below meth c H locs bk ls P hx hb hl w => ?_) (hN _ _ _ _ _ _ h)
      obtain ⟨j, hj⟩ := List.getElem?_of_mem ((rf_ll_mem (bk := bk) (q := (a, Value.int x)) lv 0).mpr ⟨a, .inl x, (rf_nth_eq _ _).symm.trans hq, by simp [rf_lo]⟩)
      exact lv_iinc hx hb hd hl hj rfl ha rfl w
theorem rf_s_iadd (hN : ∀ pc lv st σ ce sl, N pc lv st σ ce sl → rf_W l k pc lv st σ ce sl Q) (hd : decode (rf_cd k) pc = .ok (.iadd, len)) (hn : len = 1) (h : rf_step l k N Q pc (.iadd, len, a, b, v) lv st σ ce sl) : rf_W l k pc lv st σ ce sl Q := by
  subst hn
  rcases st with _ | ⟨y | y, _ | ⟨x | x, r⟩⟩
  all_goals first | exact False.elim h | skip
  exact rf_pure (fun p e R s m args below meth c H locs bk ls P hx hb hl w => lv_iadd hx hb hd w) (fun _ h => rf_ok1 (rf_okt (rf_okt h))) (hN _ _ _ _ _ _ h)
theorem rf_s_isub (hN : ∀ pc lv st σ ce sl, N pc lv st σ ce sl → rf_W l k pc lv st σ ce sl Q) (hd : decode (rf_cd k) pc = .ok (.isub, len)) (hn : len = 1) (h : rf_step l k N Q pc (.isub, len, a, b, v) lv st σ ce sl) : rf_W l k pc lv st σ ce sl Q := by
  subst hn
  rcases st with _ | ⟨y | y, _ | ⟨x | x, r⟩⟩
  all_goals first | exact False.elim h | skip
  exact rf_pure (fun p e R s m args below meth c H locs bk ls P hx hb hl w => lv_isub hx hb hd w) (fun _ h => rf_ok1 (rf_okt (rf_okt h))) (hN _ _ _ _ _ _ h)
theorem rf_s_imul (hN : ∀ pc lv st σ ce sl, N pc lv st σ ce sl → rf_W l k pc lv st σ ce sl Q) (hd : decode (rf_cd k) pc = .ok (.imul, len)) (hn : len = 1) (h : rf_step l k N Q pc (.imul, len, a, b, v) lv st σ ce sl) : rf_W l k pc lv st σ ce sl Q := by
  subst hn
  rcases st with _ | ⟨y | y, _ | ⟨x | x, r⟩⟩
  all_goals first | exact False.elim h | skip
  exact rf_pure (fun p e R s m args below meth c H locs bk ls P hx hb hl w => lv_imul hx hb hd w) (fun _ h => rf_ok1 (rf_okt (rf_okt h))) (hN _ _ _ _ _ _ h)
theorem rf_s_iand (hN : ∀ pc lv st σ ce sl, N pc lv st σ ce sl → rf_W l k pc lv st σ ce sl Q) (hd : decode (rf_cd k) pc = .ok (.iand, len)) (hn : len = 1) (h : rf_step l k N Q pc (.iand, len, a, b, v) lv st σ ce sl) : rf_W l k pc lv st σ ce sl Q := by
  subst hn
  rcases st with _ | ⟨y | y, _ | ⟨x | x, r⟩⟩
  all_goals first | exact False.elim h | skip
  exact rf_pure (fun p e R s m args below meth c H locs bk ls P hx hb hl w => lv_iand hx hb hd w) (fun _ h => rf_ok1 (rf_okt (rf_okt h))) (hN _ _ _ _ _ _ h)
theorem rf_s_ishl (hN : ∀ pc lv st σ ce sl, N pc lv st σ ce sl → rf_W l k pc lv st σ ce sl Q) (hd : decode (rf_cd k) pc = .ok (.ishl, len)) (hn : len = 1) (h : rf_step l k N Q pc (.ishl, len, a, b, v) lv st σ ce sl) : rf_W l k pc lv st σ ce sl Q := by
  subst hn
  rcases st with _ | ⟨y | y, _ | ⟨x | x, r⟩⟩
  all_goals first | exact False.elim h | skip
  exact rf_pure (fun p e R s m args below meth c H locs bk ls P hx hb hl w => lv_ishl hx hb hd w) (fun _ h => rf_ok1 (rf_okt (rf_okt h))) (hN _ _ _ _ _ _ h)
theorem rf_s_ishr (hN : ∀ pc lv st σ ce sl, N pc lv st σ ce sl → rf_W l k pc lv st σ ce sl Q) (hd : decode (rf_cd k) pc = .ok (.ishr, len)) (hn : len = 1) (h : rf_step l k N Q pc (.ishr, len, a, b, v) lv st σ ce sl) : rf_W l k pc lv st σ ce sl Q := by
  subst hn
  rcases st with _ | ⟨y | y, _ | ⟨x | x, r⟩⟩
  all_goals first | exact False.elim h | skip
  exact rf_pure (fun p e R s m args below meth c H locs bk ls P hx hb hl w => lv_ishr hx hb hd w) (fun _ h => rf_ok1 (rf_okt (rf_okt h))) (hN _ _ _ _ _ _ h)
theorem rf_s_idiv (hN : ∀ pc lv st σ ce sl, N pc lv st σ ce sl → rf_W l k pc lv st σ ce sl Q) (hd : decode (rf_cd k) pc = .ok (.idiv, len)) (hn : len = 1) (h : rf_step l k N Q pc (.idiv, len, a, b, v) lv st σ ce sl) : rf_W l k pc lv st σ ce sl Q := by
  subst hn
  rcases st with _ | ⟨y | y, _ | ⟨x | x, r⟩⟩
  all_goals first | exact False.elim h | skip
  exact rf_pure (fun p e R s m args below meth c H locs bk ls P hx hb hl w => lv_idiv hx hb hd h.1 w) (fun _ h => rf_ok1 (rf_okt (rf_okt h))) (hN _ _ _ _ _ _ h.2)
theorem rf_s_irem (hN : ∀ pc lv st σ ce sl, N pc lv st σ ce sl → rf_W l k pc lv st σ ce sl Q) (hd : decode (rf_cd k) pc = .ok (.irem, len)) (hn : len = 1) (h : rf_step l k N Q pc (.irem, len, a, b, v) lv st σ ce sl) : rf_W l k pc lv st σ ce sl Q := by
  subst hn
  rcases st with _ | ⟨y | y, _ | ⟨x | x, r⟩⟩
  all_goals first | exact False.elim h | skip
  exact rf_pure (fun p e R s m args below meth c H locs bk ls P hx hb hl w => lv_irem hx hb hd h.1 w) (fun _ h => rf_ok1 (rf_okt (rf_okt h))) (hN _ _ _ _ _ _ h.2)
theorem rf_s_iushr (hN : ∀ pc lv st σ ce sl, N pc lv st σ ce sl → rf_W l k pc lv st σ ce sl Q) (hd : decode (rf_cd k) pc = .ok (.iushr, len)) (hn : len = 1) (h : rf_step l k N Q pc (.iushr, len, a, b, v) lv st σ ce sl) : rf_W l k pc lv st σ ce sl Q := by
  subst hn
  rcases st with _ | ⟨y | y, _ | ⟨x | x, r⟩⟩
  all_goals first | exact False.elim h | skip
  exact rf_pure (fun p e R s m args below meth c H locs bk ls P hx hb hl w => lv_iushr hx hb hd rfl w) (fun _ h => rf_ok1 (rf_okt (rf_okt h))) (hN _ _ _ _ _ _ h)
theorem rf_s_ineg (hN : ∀ pc lv st σ ce sl, N pc lv st σ ce sl → rf_W l k pc lv st σ ce sl Q) (hd : decode (rf_cd k) pc = .ok (.ineg, len)) (hn : len = 1) (h : rf_step l k N Q pc (.ineg, len, a, b, v) lv st σ ce sl) : rf_W l k pc lv st σ ce sl Q := by
  subst hn
  rcases st with _ | ⟨x | x, r⟩
  all_goals first | exact False.elim h | skip
  exact rf_pure (fun p e R s m args below meth c H locs bk ls P hx hb hl w => lv_ineg hx hb hd w) (fun _ h => rf_ok1 (rf_okt h)) (hN _ _ _ _ _ _ h)
theorem rf_s_i2l (hN : ∀ pc lv st σ ce sl, N pc lv st σ ce sl → rf_W l k pc lv st σ ce sl Q) (hd : decode (rf_cd k) pc = .ok (.i2l, len)) (hn : len = 1) (h : rf_step l k N Q pc (.i2l, len, a, b, v) lv st σ ce sl) : rf_W l k pc lv st σ ce sl Q := by
  subst hn
  rcases st with _ | ⟨x | x, r⟩
  all_goals first | exact False.elim h | skip
  exact rf_pure (fun p e R s m args below meth c H locs bk ls P hx hb hl w => lv_i2l hx hb hd rfl w) (fun _ h => rf_okl (rf_okt h)) (hN _ _ _ _ _ _ h)
theorem rf_s_lmul (hN : ∀ pc lv st σ ce sl, N pc lv st σ ce sl → rf_W l k pc lv st σ ce sl Q) (hd : decode (rf_cd k) pc = .ok (.lmul, len)) (hn : len = 1) (h : rf_step l k N Q pc (.lmul, len, a, b, v) lv st σ ce sl) : rf_W l k pc lv st σ ce sl Q := by
  subst hn
  rcases st with _ | ⟨y | y | y, _ | ⟨x | x | x, r⟩⟩
  all_goals first | exact False.elim h | skip
  exact rf_pure (fun p e R s m args below meth c H locs bk ls P hx hb hl w => lv_lmul hx hb hd w) (fun _ h => rf_okl (rf_okt (rf_okt h))) (hN _ _ _ _ _ _ h)
theorem rf_s_lcmp (hN : ∀ pc lv st σ ce sl, N pc lv st σ ce sl → rf_W l k pc lv st σ ce sl Q) (hd : decode (rf_cd k) pc = .ok (.lcmp, len)) (hn : len = 1) (h : rf_step l k N Q pc (.lcmp, len, a, b, v) lv st σ ce sl) : rf_W l k pc lv st σ ce sl Q := by
  subst hn
  rcases st with _ | ⟨y | y | y, _ | ⟨x | x | x, r⟩⟩
  all_goals first | exact False.elim h | skip
  exact rf_pure (fun p e R s m args below meth c H locs bk ls P hx hb hl w => W.lcmp hx hb hd w) (fun _ h => rf_ok1 (rf_okt (rf_okt h))) (hN _ _ _ _ _ _ h)
theorem rf_s_lconst (hN : ∀ pc lv st σ ce sl, N pc lv st σ ce sl → rf_W l k pc lv st σ ce sl Q) {n : Fin 2} (hd : decode (rf_cd k) pc = .ok (.lconst n, len)) (hn : len = 1) (h : rf_step l k N Q pc (.lconst n, len, a, b, v) lv st σ ce sl) : rf_W l k pc lv st σ ce sl Q := by
  subst hn
  exact rf_pure (fun p e R s m args below meth c H locs bk ls P hx hb hl w => lv_lconst hx hb hd rfl w) (fun _ h => rf_okl h) (hN _ _ _ _ _ _ h)
theorem rf_s_dup (hN : ∀ pc lv st σ ce sl, N pc lv st σ ce sl → rf_W l k pc lv st σ ce sl Q) (hd : decode (rf_cd k) pc = .ok (.dup, len)) (hn : len = 1) (h : rf_step l k N Q pc (.dup, len, a, b, v) lv st σ ce sl) : rf_W l k pc lv st σ ce sl Q := by
  subst hn
  rcases st with _ | ⟨x | x | _ | x, r⟩
  all_goals first | exact False.elim h | skip
  · exact rf_pure (fun p e R s m args below meth c H locs bk ls P hx hb hl w => lv_dup hx hb hd rfl w) (fun _ h => rf_ok1 h) (hN _ _ _ _ _ _ h)
  · exact rf_pure (fun p e R s m args below meth c H locs bk ls P hx hb hl w => lv_dup hx hb hd rfl w) (fun _ h => rf_okc (h _ List.mem_cons_self) h) (hN _ _ _ _ _ _ h)
theorem rf_s_pop (hN : ∀ pc lv st σ ce sl, N pc lv st σ ce sl → rf_W l k pc lv st σ ce sl Q) (hd : decode (rf_cd k) pc = .ok (.pop, len)) (hn : len = 1) (h : rf_step l k N Q pc (.pop, len, a, b, v) lv st σ ce sl) : rf_W l k pc lv st σ ce sl Q := by
  subst hn
  rcases st with _ | ⟨x | x | _ | x, r⟩
  all_goals first | exact False.elim h | skip
  · exact rf_pure (fun p e R s m args below meth c H locs bk ls P hx hb hl w => lv_pop hx hb hd rfl w) (fun _ h => rf_okt h) (hN _ _ _ _ _ _ h)
  · exact rf_pure (fun p e R s m args below meth c H locs bk ls P hx hb hl w => lv_pop hx hb hd rfl w) (fun _ h => rf_okt h) (hN _ _ _ _ _ _ h)
theorem rf_s_dup2 (hN : ∀ pc lv st σ ce sl, N pc lv st σ ce sl → rf_W l k pc lv st σ ce sl Q) (hd : decode (rf_cd k) pc = .ok (.dup2, len)) (hn : len = 1) (h : rf_step l k N Q pc (.dup2, len, a, b, v) lv st σ ce sl) : rf_W l k pc lv st σ ce sl Q := by
  subst hn
  rcases st with _ | ⟨x | x, _ | ⟨y | y | _ | y, r⟩⟩
  all_goals first | exact False.elim h | skip
  exact rf_pure (fun p e R s m args below meth c H locs bk ls P hx hb hl w => lv_dup2_11 hx hb hd rfl rfl w) (fun _ h => rf_ok1 (rf_okc (h _ (List.mem_cons_of_mem _ List.mem_cons_self)) h)) (hN _ _ _ _ _ _ h)
theorem rf_s_goto (hN : ∀ pc lv st σ ce sl, N pc lv st σ ce sl → rf_W l k pc lv st σ ce sl Q) {o : Int} (hd : decode (rf_cd k) pc = .ok (.goto o, len)) (hn : len = 3) (ht : (pc : Int) + o = (a : Int)) (h : rf_step l k N Q pc (.goto o, len, a, b, v) lv st σ ce sl) : rf_W l k pc lv st σ ce sl Q := by
  subst hn
  exact rf_pure (fun p e R s m args below meth c H locs bk ls P hx hb hl w => lv_goto hx hb hd ht w) (fun _ h => h) (hN _ _ _ _ _ _ h)
theorem rf_s_if_eq (hN : ∀ pc lv st σ ce sl, N pc lv st σ ce sl → rf_W l k pc lv st σ ce sl Q) {o : Int} (hd : decode (rf_cd k) pc = .ok (.ifCond .eq o, len)) (hn : len = 3) (ht : (pc : Int) + o = (a : Int)) (h : rf_step l k N Q pc (.ifCond .eq o, len, a, b, v) lv st σ ce sl) : rf_W l k pc lv st σ ce sl Q := by
  subst hn
  rcases st with _ | ⟨x | x, r⟩
  all_goals first | exact False.elim h | skip
  exact rf_fork (fun p e R s m args below meth c H locs bk ls P hx hb wt wf => lv_if_eq hx hb hd ht wt wf) (fun h => rf_okt h) (fun hc => hN _ _ _ _ _ _ (h.1 hc)) (fun hc => hN _ _ _ _ _ _ (h.2 hc))
theorem rf_s_icmp_eq (hN : ∀ pc lv st σ ce sl, N pc lv st σ ce sl → rf_W l k pc lv st σ ce sl Q) {o : Int} (hd : decode (rf_cd k) pc = .ok (.if_icmp .eq o, len)) (hn : len = 3) (ht : (pc : Int) + o = (a : Int)) (h : rf_step l k N Q pc (.if_icmp .eq o, len, a, b, v) lv st σ ce sl) : rf_W l k pc lv st σ ce sl Q := by
  subst hn
  rcases st with _ | ⟨y | y, _ | ⟨x | x, r⟩⟩
  all_goals first | exact False.elim h | skip
  exact rf_fork (fun p e R s m args below meth c H locs bk ls P hx hb wt wf => lv_icmp_eq hx hb hd ht wt wf) (fun h => rf_okt (rf_okt h)) (fun hc => hN _ _ _ _ _ _ (h.1 hc)) (fun hc => hN _ _ _ _ _ _ (h.2 hc))
theorem rf_s_if_ne (hN : ∀ pc lv st σ ce sl, N pc lv st σ ce sl → rf_W l k pc lv st σ ce sl Q) {o : Int} (hd : decode (rf_cd k) pc = .ok (.ifCond .ne o, len)) (hn : len = 3) (ht : (pc : Int) + o = (a : Int)) (h : rf_step l k N Q pc (.ifCond .ne o, len, a, b, v) lv st σ ce sl) : rf_W l k pc lv st σ ce sl Q := by
  subst hn
  rcases st with _ | ⟨x | x, r⟩
  all_goals first | exact False.elim h | skip
  exact rf_fork (fun p e R s m args below meth c H locs bk ls P hx hb wt wf => lv_if_ne hx hb hd ht wt (fun q => wf fun n => n q)) (fun h => rf_okt h) (fun hc => hN _ _ _ _ _ _ (h.1 hc)) (fun hc => hN _ _ _ _ _ _ (h.2 (Decidable.not_not.mp hc)))
theorem rf_s_icmp_ne (hN : ∀ pc lv st σ ce sl, N pc lv st σ ce sl → rf_W l k pc lv st σ ce sl Q) {o : Int} (hd : decode (rf_cd k) pc = .ok (.if_icmp .ne o, len)) (hn : len = 3) (ht : (pc : Int) + o = (a : Int)) (h : rf_step l k N Q pc (.if_icmp .ne o, len, a, b, v) lv st σ ce sl) : rf_W l k pc lv st σ ce sl Q := by
  subst hn
  rcases st with _ | ⟨y | y, _ | ⟨x | x, r⟩⟩
  all_goals first | exact False.elim h | skip
  exact rf_fork (fun p e R s m args below meth c H locs bk ls P hx hb wt wf => lv_icmp_ne hx hb hd ht wt (fun q => wf fun n => n q)) (fun h => rf_okt (rf_okt h)) (fun hc => hN _ _ _ _ _ _ (h.1 hc)) (fun hc => hN _ _ _ _ _ _ (h.2 (Decidable.not_not.mp hc)))
theorem rf_s_if_lt (hN : ∀ pc lv st σ ce sl, N pc lv st σ ce sl → rf_W l k pc lv st σ ce sl Q) {o : Int} (hd : decode (rf_cd k) pc = .ok (.ifCond .lt o, len)) (hn : len = 3) (ht : (pc : Int) + o = (a : Int)) (h : rf_step l k N Q pc (.ifCond .lt o, len, a, b, v) lv st σ ce sl) : rf_W l k pc lv st σ ce sl Q := by
  subst hn
  rcases st with _ | ⟨x | x, r⟩
  all_goals first | exact False.elim h | skip
  exact rf_fork (fun p e R s m args below meth c H locs bk ls P hx hb wt wf => lv_if_lt hx hb hd ht wt wf) (fun h => rf_okt h) (fun hc => hN _ _ _ _ _ _ (h.1 hc)) (fun hc => hN _ _ _ _ _ _ (h.2 hc))
theorem rf_s_icmp_lt (hN : ∀ pc lv st σ ce sl, N pc lv st σ ce sl → rf_W l k pc lv st σ ce sl Q) {o : Int} (hd : decode (rf_cd k) pc = .ok (.if_icmp .lt o, len)) (hn : len = 3) (ht : (pc : Int) + o = (a : Int)) (h : rf_step l k N Q pc (.if_icmp .lt o, len, a, b, v) lv st σ ce sl) : rf_W l k pc lv st σ ce sl Q := by
  subst hn
  rcases st with _ | ⟨y | y, _ | ⟨x | x, r⟩⟩
  all_goals first | exact False.elim h | skip
  exact rf_fork (fun p e R s m args below meth c H locs bk ls P hx hb wt wf => lv_icmp_lt hx hb hd ht wt wf) (fun h => rf_okt (rf_okt h)) (fun hc => hN _ _ _ _ _ _ (h.1 hc)) (fun hc => hN _ _ _ _ _ _ (h.2 hc))
theorem rf_s_if_ge (hN : ∀ pc lv st σ ce sl, N pc lv st σ ce sl → rf_W l k pc lv st σ ce sl Q) {o : Int} (hd : decode (rf_cd k) pc = .ok (.ifCond .ge o, len)) (hn : len = 3) (ht : (pc : Int) + o = (a : Int)) (h : rf_step l k N Q pc (.ifCond .ge o, len, a, b, v) lv st σ ce sl) : rf_W l k pc lv st σ ce sl Q := by
  subst hn
  rcases st with _ | ⟨x | x, r⟩
  all_goals first | exact False.elim h | skip
  exact rf_fork (fun p e R s m args below meth c H locs bk ls P hx hb wt wf => lv_if_ge hx hb hd ht wt wf) (fun h => rf_okt h) (fun hc => hN _ _ _ _ _ _ (h.1 hc)) (fun hc => hN _ _ _ _ _ _ (h.2 hc))
theorem rf_s_icmp_ge (hN : ∀ pc lv st σ ce sl, N pc lv st σ ce sl → rf_W l k pc lv st σ ce sl Q) {o : Int} (hd : decode (rf_cd k) pc = .ok (.if_icmp .ge o, len)) (hn : len = 3) (ht : (pc : Int) + o = (a : Int)) (h : rf_step l k N Q pc (.if_icmp .ge o, len, a, b, v) lv st σ ce sl) : rf_W l k pc lv st σ ce sl Q := by
  subst hn
  rcases st with _ | ⟨y | y, _ | ⟨x | x, r⟩⟩
  all_goals first | exact False.elim h | skip
  exact rf_fork (fun p e R s m args below meth c H locs bk ls P hx hb wt wf => lv_icmp_ge hx hb hd ht wt wf) (fun h => rf_okt (rf_okt h)) (fun hc => hN _ _ _ _ _ _ (h.1 hc)) (fun hc => hN _ _ _ _ _ _ (h.2 hc))
theorem rf_s_if_gt (hN : ∀ pc lv st σ ce sl, N pc lv st σ ce sl → rf_W l k pc lv st σ ce sl Q) {o : Int} (hd : decode (rf_cd k) pc = .ok (.ifCond .gt o, len)) (hn : len = 3) (ht : (pc : Int) + o = (a : Int)) (h : rf_step l k N Q pc (.ifCond .gt o, len, a, b, v) lv st σ ce sl) : rf_W l k pc lv st σ ce sl Q := by
  subst hn
  rcases st with _ | ⟨x | x, r⟩
  all_goals first | exact False.elim h | skip
  exact rf_fork (fun p e R s m args below meth c H locs bk ls P hx hb wt wf => lv_if_gt hx hb hd ht wt wf) (fun h => rf_okt h) (fun hc => hN _ _ _ _ _ _ (h.1 hc)) (fun hc => hN _ _ _ _ _ _ (h.2 hc))
theorem rf_s_icmp_gt (hN : ∀ pc lv st σ ce sl, N pc lv st σ ce sl → rf_W l k pc lv st σ ce sl Q) {o : Int} (hd : decode (rf_cd k) pc = .ok (.if_icmp .gt o, len)) (hn : len = 3) (ht : (pc : Int) + o = (a : Int)) (h : rf_step l k N Q pc (.if_icmp .gt o, len, a, b, v) lv st σ ce sl) : rf_W l k pc lv st σ ce sl Q := by
  subst hn
  rcases st with _ | ⟨y | y, _ | ⟨x | x, r⟩⟩
  all_goals first | exact False.elim h | skip
  exact rf_fork (fun p e R s m args below meth c H locs bk ls P hx hb wt wf => lv_icmp_gt hx hb hd ht wt wf) (fun h => rf_okt (rf_okt h)) (fun hc => hN _ _ _ _ _ _ (h.1 hc)) (fun hc => hN _ _ _ _ _ _ (h.2 hc))
theorem rf_s_if_le (hN : ∀ pc lv st σ ce sl, N pc lv st σ ce sl → rf_W l k pc lv st σ ce sl Q) {o : Int} (hd : decode (rf_cd k) pc = .ok (.ifCond .le o, len)) (hn : len = 3) (ht : (pc : Int) + o = (a : Int)) (h : rf_step l k N Q pc (.ifCond .le o, len, a, b, v) lv st σ ce sl) : rf_W l k pc lv st σ ce sl Q := by
  subst hn
  rcases st with _ | ⟨x | x, r⟩
  all_goals first | exact False.elim h | skip
  exact rf_fork (fun p e R s m args below meth c H locs bk ls P hx hb wt wf => lv_if_le hx hb hd ht wt wf) (fun h => rf_okt h) (fun hc => hN _ _ _ _ _ _ (h.1 hc)) (fun hc => hN _ _ _ _ _ _ (h.2 hc))
theorem rf_s_icmp_le (hN : ∀ pc lv st σ ce sl, N pc lv st σ ce sl → rf_W l k pc lv st σ ce sl Q) {o : Int} (hd : decode (rf_cd k) pc = .ok (.if_icmp .le o, len)) (hn : len = 3) (ht : (pc : Int) + o = (a : Int)) (h : rf_step l k N Q pc (.if_icmp .le o, len, a, b, v) lv st σ ce sl) : rf_W l k pc lv st σ ce sl Q := by
  subst hn
  rcases st with _ | ⟨y | y, _ | ⟨x | x, r⟩⟩
  all_goals first | exact False.elim h | skip
  exact rf_fork (fun p e R s m args below meth c H locs bk ls P hx hb wt wf => lv_icmp_le hx hb hd ht wt wf) (fun h => rf_okt (rf_okt h)) (fun hc => hN _ _ _ _ _ _ (h.1 hc)) (fun hc => hN _ _ _ _ _ _ (h.2 hc))
end RFS
