/-! small facts for the whole step -/
theorem rf_karef {a : Nat} (h : 103 ≤ a ∧ a ≤ 106) : ∃ C, rf_KA a 2 (.object C) := by
  obtain ⟨j, rfl⟩ : ∃ j, a = 103 + j := ⟨a - 103, by omega⟩
  rcases j with _ | _ | _ | _ | j
  · exact ⟨_, rf_ka103⟩
  · exact ⟨_, rf_ka104⟩
  · exact ⟨_, rf_ka105⟩
  · exact ⟨_, rf_ka106⟩
  · omega
theorem rf_kany {a : Nat} (h : 100 ≤ a ∧ a ≤ 106) : ∃ kd ty, rf_KA a kd ty ∧ kd ≤ 2 := by
  obtain ⟨j, rfl⟩ : ∃ j, a = 100 + j := ⟨a - 100, by omega⟩
  rcases j with _ | _ | _ | j
  · exact ⟨_, _, rf_ka100, by decide⟩
  · exact ⟨_, _, rf_ka101, by decide⟩
  · exact ⟨_, _, rf_ka102, by decide⟩
  · obtain ⟨C, h⟩ := rf_karef (a := 103 + j) (by omega)
    exact ⟨2, _, (by omega : 103 + j = 100 + (j + 1 + 1 + 1)) ▸ h, by decide⟩
theorem rf_deff {Y : Nat → FieldType} {j t : Nat} (h : (t = 0 → Y j = .int) ∧ (t = 1 → Y j = .boolean) ∧ (t = 2 → (∃ C, Y j = .object C) ∨ ∃ u, Y j = .array u) ∧ t ≤ 2) : defaultValue (Y j) = if t = 2 then .null else .int 0 := by
  obtain ⟨h0, h1, h2, h3⟩ := h
  rcases t with _ | _ | _ | t
  · rw [h0 rfl]; rfl
  · rw [h1 rfl]; rfl
  · rcases h2 rfl with ⟨C, e⟩ | ⟨u, e⟩ <;> rw [e] <;> rfl
  · omega
theorem rf_init9 {a : Nat} (ha : a < 165) (hn : (rf_nm a).name = "<init>") : a < 9 := by
  have key : ∀ a, a < 165 → (rf_nm a).name = "<init>" → a < 9 := by decide +kernel
  exact key a ha hn
/-! the whole step -/
theorem rf_sound {l : Launch} {k pc : Nat} {N : Nat → List (Option rf_V) → List rf_V → rf_S → Nat → Nat → Prop} {lv : List (Option rf_V)} {st : List rf_V} {σ : rf_S} {ce sl : Nat} {Q : rf_O → rf_S → Prop} {e : rf_E}
    (hN : ∀ pc lv st σ ce sl, N pc lv st σ ce sl → rf_W l k pc lv st σ ce sl Q) (hm : rf_mok k = true) (hok : rf_okb k pc e = true) (h : rf_step l k N Q pc e lv st σ ce sl) : rf_W l k pc lv st σ ce sl Q := by
  obtain ⟨ins, len, a, b, v⟩ := e
  simp only [rf_okb, Bool.and_eq_true, decide_eq_true_eq] at hok
  obtain ⟨hd, hi⟩ := hok
  have hown : (rf_nm k).cls = rf_cn (rf_co k) := by
    have hm2 := hm
    simp only [rf_mok, Bool.and_eq_true, decide_eq_true_eq] at hm2
    exact hm2.1
  cases ins with
  | iconst n =>
    simp only [rf_oki, Bool.and_eq_true, decide_eq_true_eq] at hi
    exact rf_s_iconst hN hd (Nat.eq_of_beq_eq_true hi.1) hi.2 h
  | bipush n =>
    simp only [rf_oki, Bool.and_eq_true, decide_eq_true_eq] at hi
    exact rf_s_bipush hN hd (Nat.eq_of_beq_eq_true hi.1) hi.2 h
  | sipush n =>
    simp only [rf_oki, Bool.and_eq_true, decide_eq_true_eq] at hi
    exact rf_s_sipush hN hd (Nat.eq_of_beq_eq_true hi.1) hi.2 h
  | iload i =>
    simp only [rf_oki, Bool.and_eq_true, decide_eq_true_eq] at hi
    have hia := Nat.eq_of_beq_eq_true hi.2
    subst hia
    exact rf_s_iload hN hd (Nat.eq_of_beq_eq_true hi.1) h
  | iload_n n =>
    simp only [rf_oki, Bool.and_eq_true, decide_eq_true_eq] at hi
    exact rf_s_iload_n hN hd (Nat.eq_of_beq_eq_true hi.1) (Nat.eq_of_beq_eq_true hi.2) h
  | aload i =>
    simp only [rf_oki, Bool.and_eq_true, decide_eq_true_eq] at hi
    have hia := Nat.eq_of_beq_eq_true hi.2
    subst hia
    exact rf_s_aload hN hd (Nat.eq_of_beq_eq_true hi.1) h
  | aload_n n =>
    simp only [rf_oki, Bool.and_eq_true, decide_eq_true_eq] at hi
    exact rf_s_aload_n hN hd (Nat.eq_of_beq_eq_true hi.1) (Nat.eq_of_beq_eq_true hi.2) h
  | lload i =>
    simp only [rf_oki, Bool.and_eq_true, decide_eq_true_eq] at hi
    have hia := Nat.eq_of_beq_eq_true hi.2
    subst hia
    exact rf_s_lload hN hd (Nat.eq_of_beq_eq_true hi.1) h
  | lload_n n =>
    simp only [rf_oki, Bool.and_eq_true, decide_eq_true_eq] at hi
    exact rf_s_lload_n hN hd (Nat.eq_of_beq_eq_true hi.1) (Nat.eq_of_beq_eq_true hi.2) h
  | istore i =>
    simp only [rf_oki, Bool.and_eq_true, decide_eq_true_eq] at hi
    have hia := Nat.eq_of_beq_eq_true hi.2.1
    subst hia
    exact rf_s_istore hN hd (Nat.eq_of_beq_eq_true hi.1) hi.2.2 h
  | istore_n n =>
    simp only [rf_oki, Bool.and_eq_true, decide_eq_true_eq] at hi
    exact rf_s_istore_n hN hd (Nat.eq_of_beq_eq_true hi.1) (Nat.eq_of_beq_eq_true hi.2.1) hi.2.2 h
  | astore i =>
    simp only [rf_oki, Bool.and_eq_true, decide_eq_true_eq] at hi
    have hia := Nat.eq_of_beq_eq_true hi.2.1
    subst hia
    exact rf_s_astore hN hd (Nat.eq_of_beq_eq_true hi.1) hi.2.2 h
  | astore_n n =>
    simp only [rf_oki, Bool.and_eq_true, decide_eq_true_eq] at hi
    exact rf_s_astore_n hN hd (Nat.eq_of_beq_eq_true hi.1) (Nat.eq_of_beq_eq_true hi.2.1) hi.2.2 h
  | lstore i =>
    simp only [rf_oki, Bool.and_eq_true, decide_eq_true_eq] at hi
    have hia := Nat.eq_of_beq_eq_true hi.2.1
    subst hia
    exact rf_s_lstore hN hd (Nat.eq_of_beq_eq_true hi.1) hi.2.2 h
  | lstore_n n =>
    simp only [rf_oki, Bool.and_eq_true, decide_eq_true_eq] at hi
    exact rf_s_lstore_n hN hd (Nat.eq_of_beq_eq_true hi.1) (Nat.eq_of_beq_eq_true hi.2.1) hi.2.2 h
  | iinc i n =>
    simp only [rf_oki, Bool.and_eq_true, decide_eq_true_eq] at hi
    have hia := Nat.eq_of_beq_eq_true hi.2.1
    subst hia
    exact rf_s_iinc hN hd (Nat.eq_of_beq_eq_true hi.1) hi.2.2.1 hi.2.2.2 h
  | iadd =>
    exact rf_s_iadd hN hd (Nat.eq_of_beq_eq_true hi) h
  | isub =>
    exact rf_s_isub hN hd (Nat.eq_of_beq_eq_true hi) h
  | imul =>
    exact rf_s_imul hN hd (Nat.eq_of_beq_eq_true hi) h
  | idiv =>
    exact rf_s_idiv hN hd (Nat.eq_of_beq_eq_true hi) h
  | irem =>
    exact rf_s_irem hN hd (Nat.eq_of_beq_eq_true hi) h
  | ineg =>
    exact rf_s_ineg hN hd (Nat.eq_of_beq_eq_true hi) h
  | iand =>
    exact rf_s_iand hN hd (Nat.eq_of_beq_eq_true hi) h
  | ishl =>
    exact rf_s_ishl hN hd (Nat.eq_of_beq_eq_true hi) h
  | ishr =>
    exact rf_s_ishr hN hd (Nat.eq_of_beq_eq_true hi) h
  | iushr =>
    exact rf_s_iushr hN hd (Nat.eq_of_beq_eq_true hi) h
  | i2l =>
    exact rf_s_i2l hN hd (Nat.eq_of_beq_eq_true hi) h
  | lmul =>
    exact rf_s_lmul hN hd (Nat.eq_of_beq_eq_true hi) h
  | lcmp =>
    exact rf_s_lcmp hN hd (Nat.eq_of_beq_eq_true hi) h
  | dup =>
    exact rf_s_dup hN hd (Nat.eq_of_beq_eq_true hi) h
  | dup2 =>
    exact rf_s_dup2 hN hd (Nat.eq_of_beq_eq_true hi) h
  | pop =>
    exact rf_s_pop hN hd (Nat.eq_of_beq_eq_true hi) h
  | lconst n =>
    exact rf_s_lconst hN hd (Nat.eq_of_beq_eq_true hi) h
  | ldc_w i =>
    simp only [rf_oki, Bool.and_eq_true, decide_eq_true_eq] at hi
    have hl := Nat.eq_of_beq_eq_true hi.1
    subst hl
    have hw := rf_ci_spec hi.2
    rw [← hown] at hw
    refine rf_read (fun N0 H0 D cA bk p e R s m args below meth c H locs ls P h1 h2 h5 w => lv_ldcw h1.1 h1.2.1 h1.2.2.2.1 (h1.2.2.2.2.1 _ hw.1 hw.2) hd w) (fun N0 H0 D cA bk s H hR h5 => rf_ok1 h5) (hN _ _ _ _ _ _ h)
  | ldc2_w i =>
    simp only [rf_oki, Bool.and_eq_true, decide_eq_true_eq] at hi
    have hl := Nat.eq_of_beq_eq_true hi.1
    subst hl
    have hw := rf_cj_spec hi.2
    rw [← hown] at hw
    refine rf_read (fun N0 H0 D cA bk p e R s m args below meth c H locs ls P h1 h2 h5 w => lv_ldc2 h1.1 h1.2.1 h1.2.2.2.1 (h1.2.2.2.2.1 _ hw.1 hw.2) hd w) (fun N0 H0 D cA bk s H hR h5 => rf_okl h5) (hN _ _ _ _ _ _ h)
  | ifCond cd o =>
    simp only [rf_oki, Bool.and_eq_true, decide_eq_true_eq] at hi
    cases cd with
    | eq => exact rf_s_if_eq hN hd (Nat.eq_of_beq_eq_true hi.1) hi.2 h
    | ne => exact rf_s_if_ne hN hd (Nat.eq_of_beq_eq_true hi.1) hi.2 h
    | lt => exact rf_s_if_lt hN hd (Nat.eq_of_beq_eq_true hi.1) hi.2 h
    | ge => exact rf_s_if_ge hN hd (Nat.eq_of_beq_eq_true hi.1) hi.2 h
    | gt => exact rf_s_if_gt hN hd (Nat.eq_of_beq_eq_true hi.1) hi.2 h
    | le => exact rf_s_if_le hN hd (Nat.eq_of_beq_eq_true hi.1) hi.2 h
  | if_icmp cd o =>
    simp only [rf_oki, Bool.and_eq_true, decide_eq_true_eq] at hi
    cases cd with
    | eq => exact rf_s_icmp_eq hN hd (Nat.eq_of_beq_eq_true hi.1) hi.2 h
    | ne => exact rf_s_icmp_ne hN hd (Nat.eq_of_beq_eq_true hi.1) hi.2 h
    | lt => exact rf_s_icmp_lt hN hd (Nat.eq_of_beq_eq_true hi.1) hi.2 h
    | ge => exact rf_s_icmp_ge hN hd (Nat.eq_of_beq_eq_true hi.1) hi.2 h
    | gt => exact rf_s_icmp_gt hN hd (Nat.eq_of_beq_eq_true hi.1) hi.2 h
    | le => exact rf_s_icmp_le hN hd (Nat.eq_of_beq_eq_true hi.1) hi.2 h
  | goto o =>
    simp only [rf_oki, Bool.and_eq_true, decide_eq_true_eq] at hi
    exact rf_s_goto hN hd (Nat.eq_of_beq_eq_true hi.1) hi.2 h
  | tableswitch d lo hi os =>
    simp only [rf_oki, Bool.and_eq_true, decide_eq_true_eq] at hi
    obtain ⟨i1, i2, i3⟩ := hi
    subst i1
    rcases st with _ | ⟨x | x, r⟩
    all_goals first | exact False.elim h | skip
    exact rf_s_switch hN hd i3 i2 h
  | getfield i =>
    simp only [rf_oki, Bool.and_eq_true, decide_eq_true_eq] at hi
    have hl := Nat.eq_of_beq_eq_true hi.1
    obtain ⟨C, T, F, hc, hb, hw⟩ := rf_fl_spec hi.2
    obtain ⟨Y, hC, -⟩ := rf_kcall hc
    rw [← hown] at hw
    exact rf_s_getfield hN hC hb hw hd hl h
  | putfield i =>
    simp only [rf_oki, Bool.and_eq_true, decide_eq_true_eq, Bool.or_eq_true] at hi
    have hl := Nat.eq_of_beq_eq_true hi.1
    subst hl
    obtain ⟨C, T, F, hc, hb, hw⟩ := rf_fl_spec hi.2.1
    obtain ⟨Y, hC, hkd, -⟩ := rf_kcall hc
    rw [← hown] at hw
    have hfin : rf_fin a b = (T b).2.2.2 := by unfold rf_fin; rw [rf_nth_eq, hc]
    rcases st with _ | ⟨x | x | _ | x, _ | ⟨y | y | _ | ⟨b', i9⟩, r⟩⟩
    all_goals first | exact False.elim h | skip
    · cases hq : Nat.beq b' a with
      | false => simp only [rf_step, hq] at h
      | true =>
        have e1 := Nat.eq_of_beq_eq_true hq
        subst e1
        cases ht : rf_nth (rf_ft b') b with
        | none => simp only [rf_step, hq, ht] at h
        | some t =>
          have ht2 := ht
          rw [rf_nth_eq] at ht2
          have hf : (T b).2.2.2 = false := by
            rcases hi.2.2 with q | q
            · rw [← hfin]; exact q.1
            · rw [ht2] at q
              have := Option.some.inj q.1.2
              subst this
              simp only [rf_step, hq, ht] at h
          rcases t with _ | _ | t
          · simp only [rf_step, hq, ht] at h
            have hY := (hkd b _ ht2).1 rfl
            exact rf_s_putI hN hC hb hw hf ht2 (by decide) (by rw [hY]; rfl) (by rw [hY]; rfl) hd h
          · simp only [rf_step, hq, ht] at h
            have hY := (hkd b _ ht2).2.1 rfl
            refine rf_s_putI hN hC hb hw hf ht2 (by decide) ?_ (by rw [hY]; rcases h.1 with q | q <;> rw [q] <;> rfl) hd h.2
            rw [hY]
            rcases h.1 with q | q <;> rw [q] <;> rfl
          · simp only [rf_step, hq, ht] at h
    · cases hq : Nat.beq b' a with
      | false => simp only [rf_step, hq] at h
      | true =>
        have e1 := Nat.eq_of_beq_eq_true hq
        subst e1
        cases ht : rf_nth (rf_ft b') b with
        | none => simp only [rf_step, hq, ht] at h
        | some t =>
          have ht2 := ht
          rw [rf_nth_eq] at ht2
          rcases t with _ | _ | _ | t
          · simp only [rf_step, hq, ht] at h
          · simp only [rf_step, hq, ht] at h
          · simp only [rf_step, hq, ht] at h
            rcases hi.2.2 with q | q
            · exact absurd ht2 q.2
            · obtain ⟨⟨q1, q2⟩, q3, q4⟩ := q
              rw [hc] at q4
              have hcl : (rf_nm k).cls = C := (Option.some.inj q4).symm
              refine rf_s_putP hN hC hb hw (by rw [← hfin]; exact q1) q3 hcl ht2 (fun q => ?_) (fun q => ?_) hd h
              · rcases (hkd b _ ht2).2.2.1 rfl with ⟨_, hY⟩ | ⟨_, hY⟩ <;> rw [hY] <;> rfl
              · rcases (hkd b _ ht2).2.2.1 rfl with ⟨_, hY⟩ | ⟨_, hY⟩ <;> rw [hY] <;> rfl
          · simp only [rf_step, hq, ht] at h
  | iaload =>
    simp only [rf_oki, Bool.and_eq_true, decide_eq_true_eq, Bool.or_eq_true] at hi
    have hl := Nat.eq_of_beq_eq_true hi.1
    subst hl
    rcases st with _ | ⟨j | j, _ | ⟨y | y | _ | ⟨b', i9⟩, r⟩⟩
    all_goals first | exact False.elim h | skip
    cases hq : Nat.beq b' a && (Nat.beq a 100 || Nat.beq i9 0) with
    | false => simp only [rf_step, hq] at h
    | true =>
      simp only [rf_step, hq] at h
      simp only [Bool.and_eq_true, Bool.or_eq_true] at hq
      have e1 := Nat.eq_of_beq_eq_true hq.1
      subst e1
      rcases hi.2 with q | q
      · have := Nat.eq_of_beq_eq_true q
        subst this
        exact rf_a_int hN rf_ka100 hd h.1 h.2
      · have := Nat.eq_of_beq_eq_true q
        subst this
        have hz : i9 = 0 := hq.2.elim (fun z => by simp [rf_scr] at z) Nat.eq_of_beq_eq_true
        exact rf_a_scr hN hd hz h.1 h.2
  | baload =>
    simp only [rf_oki, Bool.and_eq_true, decide_eq_true_eq, Bool.or_eq_true] at hi
    have hl := Nat.eq_of_beq_eq_true hi.1
    subst hl
    rcases st with _ | ⟨j | j, _ | ⟨y | y | _ | ⟨b', i9⟩, r⟩⟩
    all_goals first | exact False.elim h | skip
    cases hq : Nat.beq b' a with
    | false => simp only [rf_step, hq] at h
    | true =>
      have e1 := Nat.eq_of_beq_eq_true hq
      subst e1
      simp only [rf_step, hq] at h
      have := Nat.eq_of_beq_eq_true hi.2
      subst this
      exact rf_a_bool hN rf_ka101 hd h.1 h.2
  | laload =>
    simp only [rf_oki, Bool.and_eq_true, decide_eq_true_eq, Bool.or_eq_true] at hi
    have hl := Nat.eq_of_beq_eq_true hi.1
    subst hl
    rcases st with _ | ⟨j | j, _ | ⟨y | y | _ | ⟨b', i9⟩, r⟩⟩
    all_goals first | exact False.elim h | skip
    cases hq : Nat.beq b' a with
    | false => simp only [rf_step, hq] at h
    | true =>
      have e1 := Nat.eq_of_beq_eq_true hq
      subst e1
      simp only [rf_step, hq] at h
      have := Nat.eq_of_beq_eq_true hi.2
      subst this
      exact rf_a_long hN rf_ka102 hd h.1 h.2
  | aaload =>
    simp only [rf_oki, Bool.and_eq_true, decide_eq_true_eq, Bool.or_eq_true] at hi
    have hl := Nat.eq_of_beq_eq_true hi.1
    subst hl
    rcases st with _ | ⟨j | j, _ | ⟨y | y | _ | ⟨b', i9⟩, r⟩⟩
    all_goals first | exact False.elim h | skip
    cases hq : Nat.beq b' a with
    | false => simp only [rf_step, hq] at h
    | true =>
      have e1 := Nat.eq_of_beq_eq_true hq
      subst e1
      simp only [rf_step, hq] at h
      obtain ⟨C, hA⟩ := rf_karef hi.2
      exact rf_a_ref hN hA hd h.1 h.2
  | iastore =>
    simp only [rf_oki, Bool.and_eq_true, decide_eq_true_eq, Bool.or_eq_true] at hi
    have hl := Nat.eq_of_beq_eq_true hi.1
    subst hl
    rcases st with _ | ⟨x | x, _ | ⟨j | j, _ | ⟨y | y | _ | ⟨b', i9⟩, r⟩⟩⟩
    all_goals first | exact False.elim h | skip
    cases hq : Nat.beq b' a with
    | false => simp only [rf_step, hq] at h
    | true =>
      have e1 := Nat.eq_of_beq_eq_true hq
      subst e1
      simp only [rf_step, hq] at h
      have := Nat.eq_of_beq_eq_true hi.2
      subst this
      exact rf_w_int hN rf_ka100 hd h.1 h.2
  | bastore =>
    simp only [rf_oki, Bool.and_eq_true, decide_eq_true_eq, Bool.or_eq_true] at hi
    have hl := Nat.eq_of_beq_eq_true hi.1
    subst hl
    rcases st with _ | ⟨x | x, _ | ⟨j | j, _ | ⟨y | y | _ | ⟨b', i9⟩, r⟩⟩⟩
    all_goals first | exact False.elim h | skip
    cases hq : Nat.beq b' a with
    | false => simp only [rf_step, hq] at h
    | true =>
      have e1 := Nat.eq_of_beq_eq_true hq
      subst e1
      simp only [rf_step, hq] at h
      have := Nat.eq_of_beq_eq_true hi.2
      subst this
      exact rf_w_bool hN rf_ka101 hd h.1 h.2.1 h.2.2
  | lastore =>
    simp only [rf_oki, Bool.and_eq_true, decide_eq_true_eq, Bool.or_eq_true] at hi
    have hl := Nat.eq_of_beq_eq_true hi.1
    subst hl
    rcases st with _ | ⟨x | x | x, _ | ⟨j | j, _ | ⟨y | y | _ | ⟨b', i9⟩, r⟩⟩⟩
    all_goals first | exact False.elim h | skip
    cases hq : Nat.beq b' a with
    | false => simp only [rf_step, hq] at h
    | true =>
      have e1 := Nat.eq_of_beq_eq_true hq
      subst e1
      simp only [rf_step, hq] at h
      have := Nat.eq_of_beq_eq_true hi.2
      subst this
      exact rf_w_long hN rf_ka102 hd h.1 h.2
  | aastore =>
    simp only [rf_oki, Bool.and_eq_true, decide_eq_true_eq] at hi
    have hl := Nat.eq_of_beq_eq_true hi.1
    subst hl
    rcases st with _ | ⟨x | x | _ | ⟨b2, i2⟩, _ | ⟨j | j, _ | ⟨y | y | _ | ⟨b', i9⟩, r⟩⟩⟩
    all_goals first | exact False.elim h | skip
    cases hq : Nat.beq b' a with
    | false => simp only [rf_step, hq] at h
    | true =>
      cases hq2 : Nat.beq b2 b with
      | false => simp only [rf_step, hq, hq2] at h
      | true =>
        have e1 := Nat.eq_of_beq_eq_true hq
        have e2 := Nat.eq_of_beq_eq_true hq2
        subst e1; subst e2
        simp only [rf_step, hq, hq2] at h
        have hmem := hi.2
        simp only [List.mem_cons, Prod.mk.injEq, List.not_mem_nil, or_false] at hmem
        rcases hmem with ⟨rfl, rfl⟩ | ⟨rfl, rfl⟩ | ⟨rfl, rfl⟩ | ⟨rfl, rfl⟩
        · exact rf_w_ref hN rf_ka103 rf_kc2 hd h.1 h.2
        · exact rf_w_ref hN rf_ka104 rf_kc6 hd h.1 h.2
        · exact rf_w_ref hN rf_ka105 rf_kc1 hd h.1 h.2
        · exact rf_w_ref hN rf_ka106 rf_kc5 hd h.1 h.2
  | arraylength =>
    simp only [rf_oki, Bool.and_eq_true, decide_eq_true_eq, Bool.or_eq_true] at hi
    have hl := Nat.eq_of_beq_eq_true hi.1
    subst hl
    rcases st with _ | ⟨y | y | _ | ⟨b', i9⟩, r⟩
    all_goals first | exact False.elim h | skip
    cases hq : Nat.beq b' a && (Nat.ble a 150 || Nat.beq i9 0) with
    | false => simp only [rf_step, hq] at h
    | true =>
      simp only [rf_step, hq] at h
      simp only [Bool.and_eq_true, Bool.or_eq_true] at hq
      have e1 := Nat.eq_of_beq_eq_true hq.1
      subst e1
      rcases hi.2 with q | q
      · obtain ⟨kd, ty, hA, hkd⟩ := rf_kany q
        exact rf_l_arr hN hA hkd hd h
      · have := Nat.eq_of_beq_eq_true q
        subst this
        have hz : i9 = 0 := hq.2.elim (fun z => by simp [rf_scr] at z) Nat.eq_of_beq_eq_true
        exact rf_l_scr hN hd hz h
  | new i =>
    simp only [rf_oki, Bool.and_eq_true, decide_eq_true_eq] at hi
    have hl := Nat.eq_of_beq_eq_true hi.1
    subst hl
    obtain ⟨C, T, F, hc, hw⟩ := rf_kl_spec hi.2.1
    obtain ⟨Y, hC, hkd, w1, w2⟩ := rf_kcall hc
    have hF := hi.2.2
    rw [hc] at hF
    have hF2 : F = b := Option.some.inj hF
    subst hF2
    rw [← hown] at hw
    exact rf_s_new hN hC (fun j t ht => rf_deff (hkd j t ht)) hw w1 w2 hd h.1 h.2
  | newarray t =>
    simp only [rf_oki, Bool.and_eq_true, decide_eq_true_eq, Bool.or_eq_true] at hi
    have hl := Nat.eq_of_beq_eq_true hi.1
    subst hl
    rcases st with _ | ⟨n | n, r⟩
    all_goals first | exact False.elim h | skip
    rcases hi.2 with ⟨rfl, q⟩ | ⟨rfl, q⟩ | ⟨rfl, q⟩
    · exact rf_s_newarray hN rf_ka100 (by decide) q (fun _ => rfl) (fun q => by cases q) (by decide) rf_ac_int hd h.1 h.2
    · exact rf_s_newarray hN rf_ka101 (by decide) q (fun _ => rfl) (fun q => by cases q) (by decide) rf_ac_boolean hd h.1 h.2
    · exact rf_s_newarray hN rf_ka102 (by decide) q (fun q => by cases q) (fun _ => rfl) (by decide) rf_ac_long hd h.1 h.2
  | anewarray i =>
    simp only [rf_oki, Bool.and_eq_true, Bool.or_eq_true] at hi
    have hl := Nat.eq_of_beq_eq_true hi.1
    subst hl
    rcases st with _ | ⟨n | n, r⟩
    all_goals first | exact False.elim h | skip
    rcases hi.2 with ⟨q, q2⟩ | ⟨q, q2⟩ | ⟨q, q2⟩ | ⟨q, q2⟩
    · have := Nat.eq_of_beq_eq_true q
      subst this
      obtain ⟨C, T, F, hc, hw⟩ := rf_kl_spec q2
      cases hc
      rw [← hown] at hw
      exact rf_s_anewarray hN rf_ka103 hw rf_ov2 hd h.1 h.2
    · have := Nat.eq_of_beq_eq_true q
      subst this
      obtain ⟨C, T, F, hc, hw⟩ := rf_kl_spec q2
      cases hc
      rw [← hown] at hw
      exact rf_s_anewarray hN rf_ka104 hw rf_ov6 hd h.1 h.2
    · have := Nat.eq_of_beq_eq_true q
      subst this
      obtain ⟨C, T, F, hc, hw⟩ := rf_kl_spec q2
      cases hc
      rw [← hown] at hw
      exact rf_s_anewarray hN rf_ka105 hw rf_ov1 hd h.1 h.2
    · have := Nat.eq_of_beq_eq_true q
      subst this
      obtain ⟨C, T, F, hc, hw⟩ := rf_kl_spec q2
      cases hc
      rw [← hown] at hw
      exact rf_s_anewarray hN rf_ka106 hw rf_ov5 hd h.1 h.2
  | ireturn =>
    simp only [rf_oki, Bool.and_eq_true, decide_eq_true_eq, Bool.or_eq_true] at hi
    have hl := Nat.eq_of_beq_eq_true hi.1
    subst hl
    rcases st with _ | ⟨x | x, _ | ⟨y, r⟩⟩
    all_goals first | exact False.elim h | skip
    rcases hi.2 with ⟨q, q2⟩ | ⟨q, q2⟩
    · have := Nat.eq_of_beq_eq_true q
      subst this
      exact rf_s_ireturn q2 (by rcases h.1 with z | z <;> rw [z] <;> rfl) hd h.2
    · have := Nat.eq_of_beq_eq_true q
      subst this
      exact rf_s_ireturn q2 rfl hd h
  | areturn =>
    simp only [rf_oki, Bool.and_eq_true, decide_eq_true_eq] at hi
    have hl := Nat.eq_of_beq_eq_true hi.1
    subst hl
    rcases st with _ | ⟨x | x | _ | x, _ | ⟨y, r⟩⟩
    all_goals first | exact False.elim h | skip
    exact rf_s_areturn hi.2 hd h
  | return_ =>
    simp only [rf_oki, Bool.and_eq_true, decide_eq_true_eq] at hi
    have hl := Nat.eq_of_beq_eq_true hi.1
    subst hl
    rcases st with _ | ⟨x, r⟩
    all_goals first | exact False.elim h | skip
    exact rf_s_return hi.2 hd h
  | invokestatic i =>
    simp only [rf_oki, Bool.and_eq_true, decide_eq_true_eq] at hi
    have hl := Nat.eq_of_beq_eq_true hi.1
    subst hl
    have hb := Nat.eq_of_beq_eq_true hi.2.1
    subst hb
    have hw := (rf_ml9_spec hi.2.2.1).2 (by decide)
    rw [← hown] at hw
    exact rf_s_static hN hm hi.2.2.2.2.1 (Nat.eq_of_beq_eq_true hi.2.2.2.1) hi.2.2.2.2.2 hw hd h
  | invokevirtual i =>
    simp only [rf_oki, Bool.and_eq_true, decide_eq_true_eq] at hi
    have hl := Nat.eq_of_beq_eq_true hi.1
    subst hl
    have hb := Nat.eq_of_beq_eq_true hi.2.1
    subst hb
    have hw := (rf_ml9_spec hi.2.2.1).2 (by decide)
    rw [← hown] at hw
    exact rf_s_virtual hN hm hi.2.2.2.2.1 hi.2.2.2.1.1 hi.2.2.2.1.2 hi.2.2.2.2.2 hw hd h
  | invokespecial i =>
    simp only [rf_oki, Bool.and_eq_true, decide_eq_true_eq, Bool.or_eq_true] at hi
    have hl := Nat.eq_of_beq_eq_true hi.1
    subst hl
    rcases hi.2 with ⟨q, q2, q3⟩ | ⟨q, q2, q3, q4⟩
    · have := Nat.eq_of_beq_eq_true q
      subst this
      have hw := rf_ol_spec q2
      rw [← hown] at hw
      rcases st with _ | ⟨x | x | _ | x, _ | ⟨y, r⟩⟩
      all_goals first | exact False.elim h | skip
      exact rf_s_objinit hN hw rf_oic.1 rf_oic.2 q3.1 q3.2 hd h
    · have := Nat.eq_of_beq_eq_true q
      subst this
      have ha9 : a < 9 := rf_init9 q4.1 q3.2
      obtain ⟨c1, c2, c3⟩ := rf_icall ha9
      have hw : rf_wok (.methodLink (rf_nm k).cls i (rf_nm a)) ∨ rf_wok (.methodLinkNest (rf_nm k).cls i (rf_nm a) "FlyingDesk") := by
        rw [hown]
        rcases q2 with q2 | q2
        · exact Or.inl ((rf_ml9_spec q2).2 (by decide))
        · exact Or.inr ((rf_ml9_spec q2).1 rfl)
      exact rf_s_special hN hm q4.1 q3.1 q3.2 c2 c3 q4.2 hw c1 hd h
  | _ => exact False.elim h
