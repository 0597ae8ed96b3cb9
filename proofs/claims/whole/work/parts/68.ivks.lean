/-! each step of the picture is one of the machine -/
theorem rf_kcall {a : Nat} {C : String} {T : u_T} {F : Nat} (h : rf_cl[a]? = some (C, T, F)) : ∃ Y : Nat → FieldType, rf_KC a C T F Y ∧ (∀ j t, (rf_ft a)[j]? = some t → (t = 0 → Y j = .int) ∧ (t = 1 → Y j = .boolean) ∧ (t = 2 → (∃ C, Y j = .object C) ∨ ∃ u, Y j = .array u) ∧ t ≤ 2) ∧ rf_wok (.instantiable C F) ∧ rf_wok (.initialized C) := by
  have ha : a < 9 := (List.getElem?_eq_some_iff.mp h).1
  rcases a with _ | _ | _ | _ | _ | _ | _ | _ | _ | a
  · cases h; exact ⟨rf_Y0, rf_kc0, rf_kd0, rf_ins0, rf_ini0⟩
  · cases h; exact ⟨rf_Y1, rf_kc1, rf_kd1, rf_ins1, rf_ini1⟩
  · cases h; exact ⟨rf_Y2, rf_kc2, rf_kd2, rf_ins2, rf_ini2⟩
  · cases h; exact ⟨rf_Y3, rf_kc3, rf_kd3, rf_ins3, rf_ini3⟩
  · cases h; exact ⟨rf_Y4, rf_kc4, rf_kd4, rf_ins4, rf_ini4⟩
  · cases h; exact ⟨rf_Y5, rf_kc5, rf_kd5, rf_ins5, rf_ini5⟩
  · cases h; exact ⟨rf_Y6, rf_kc6, rf_kd6, rf_ins6, rf_ini6⟩
  · cases h; exact ⟨rf_Y7, rf_kc7, rf_kd7, rf_ins7, rf_ini7⟩
  · cases h; exact ⟨rf_Y8, rf_kc8, rf_kd8, rf_ins8, rf_ini8⟩
  · omega
theorem rf_hokall {k : Nat} (hk : rf_mok k = true) : rf_hok k ∧ (rf_hx k).length = (rf_hh k).length ∧ ∀ q ∈ rf_hx k, q.2.2.2 < 3 := by
  simp only [rf_mok, Bool.and_eq_true, decide_eq_true_eq] at hk
  obtain ⟨-, hl, ha⟩ := hk
  have row : ∀ (j : Nat) (hj : j < (rf_hh k).length), ∀ hj' : j < (rf_hx k).length, _ := fun j hj hj' => by
    have hm : ((rf_hh k)[j], (rf_hx k)[j]) ∈ (rf_hh k).zip (rf_hx k) := List.mem_iff_getElem.mpr ⟨j, by rw [List.length_zip]; omega, by simp⟩
    exact of_decide_eq_true (List.all_eq_true.mp ha _ hm)
  refine ⟨⟨fun h => List.eq_nil_of_length_eq_zero (by rw [← hl, h]; rfl), fun j q hq => ?_⟩, hl, fun q hq => ?_⟩
  · obtain ⟨hj, rfl⟩ := List.getElem?_eq_some_iff.mp hq
    obtain ⟨r1, r2, r3, r4, r5, r6⟩ := row j hj (by omega)
    refine ⟨by rw [r5]; omega, ((rf_hx k)[j]'(by omega)).2.2.2, r4, ?_, ?_⟩
    · rw [List.getElem?_eq_getElem (by omega), r1, r2, r3]
    · rw [r5, r6]
      generalize ((rf_hx k)[j]'(by omega)).2.2.2 = x at r4 ⊢
      rcases x with _ | _ | _ | x
      · exact rf_xcl0
      · exact rf_xcl1
      · exact rf_xcl2
      · omega
  · obtain ⟨j, hj, rfl⟩ := List.mem_iff_getElem.mp hq
    exact (row j (by omega) hj).2.2.2.1
theorem rf_cfall {k a : Nat} (hk : rf_mok k = true) (ha : a < 165) (hr : rf_fr a + 1 ≤ rf_fr k ∧ 8 + (rf_ml a + 11) + rf_lw a ≤ rf_lw k) : rf_CF k a := by
  obtain ⟨q1, q2, q3⟩ := rf_hokall hk
  have hm := rf_mwq_ok a ha
  unfold rf_mwq at hm
  cases hq : rf_nth rf_mws a with
  | none => rw [hq] at hm; cases hm
  | some q =>
    rw [hq] at hm
    simp only [Bool.and_eq_true, decide_eq_true_eq] at hm
    exact ⟨hm.2.2.1, rf_cwall a ha, hr, hm.2.2.2.1, q1, q2, q3, rf_castok, rf_ncastok⟩
/-- the words of a static method; of an instance's -/
theorem rf_stat {a : Nat} (ha : a < 165) (hb : rf_rb a = 1000) : rf_wok (.static (rf_nm a)) ∧ rf_wok (.initialized (rf_nm a).cls) ∧ ((rf_nm a).cls ≠ "java/lang/invoke/MethodHandle" ∧ (rf_nm a).cls ≠ "java/lang/invoke/VarHandle") ∧ (parseMethodDescriptor (rf_nm a).desc).map (fun d => d.parameters.length) = some (rf_na a) := by
  have hm := rf_mwq_ok a ha
  unfold rf_mwq at hm
  cases hq : rf_nth rf_mws a with
  | none => rw [hq] at hm; cases hm
  | some q =>
    rw [hq] at hm
    simp only [hb, Nat.beq_refl, Bool.and_eq_true, decide_eq_true_eq] at hm
    exact ⟨rf_at _ hm.1.1 rfl, rf_at _ hm.2.1 rfl, hm.2.2.2.2, hm.1.2⟩
theorem rf_inst {a : Nat} (ha : a < 165) (hb : rf_rb a ≠ 1000) : rf_wok (.instanceMethod (rf_nm a)) ∧ rf_wok (.initialized (rf_nm a).cls) ∧ ((rf_nm a).cls ≠ "java/lang/invoke/MethodHandle" ∧ (rf_nm a).cls ≠ "java/lang/invoke/VarHandle") ∧ (parseMethodDescriptor (rf_nm a).desc).map (fun d => d.parameters.length) = some (rf_na a - 1) ∧ 1 ≤ rf_na a ∧ (∃ T F, rf_cl[rf_rb a]? = some ((rf_nm a).cls, T, F)) ∧
    ((rf_nm a).name ≠ "<init>" → rf_wok (.selects (rf_nm a).cls (rf_nm a) (rf_nm a))) ∧ ((rf_nm a).name = "<init>" → rf_wok (.selects (rf_nm a).cls (rf_nm a) (rf_nm a)) ∨ (rf_rt a = none ∧ rf_hh a = [])) := by
  have hm := rf_mwq_ok a ha
  have hb' : Nat.beq (rf_rb a) 1000 = false := by
    cases h : Nat.beq (rf_rb a) 1000 with
    | false => rfl
    | true => exact absurd (Nat.eq_of_beq_eq_true h) hb
  unfold rf_mwq at hm
  cases hq : rf_nth rf_mws a with
  | none => rw [hq] at hm; cases hm
  | some q =>
    rw [hq] at hm
    simp only [hb', Bool.and_eq_true, decide_eq_true_eq, Bool.or_eq_true] at hm
    obtain ⟨⟨m1, m2, m3, m4, m5⟩, m6, m7, m8, m9⟩ := hm
    have hcl : ∃ T F, rf_cl[rf_rb a]? = some ((rf_nm a).cls, T, F) := by
      cases hc : rf_nth rf_cl (rf_rb a) with
      | none => rw [hc] at m4; cases m4
      | some r =>
        obtain ⟨C, T, F⟩ := r
        rw [hc] at m4
        simp only [decide_eq_true_eq] at m4
        exact ⟨T, F, by rw [← rf_nth_eq, hc, m4]⟩
    refine ⟨rf_at _ m1 rfl, rf_at _ m6 rfl, m9, m2, m3, hcl, fun hn => ?_, fun hn => ?_⟩
    · exact m5.elim (fun h => absurd h.1 hn) fun h => rf_at _ h rfl
    · exact m5.elim (fun h => Or.inr h.2) fun h => Or.inl (rf_at _ h rfl)
section RFZ
variable {l : Launch} {k pc : Nat} {N : Nat → List (Option rf_V) → List rf_V → rf_S → Nat → Nat → Prop} {lv : List (Option rf_V)} {st as r : List rf_V} {σ : rf_S} {ce sl : Nat} {Q : rf_O → rf_S → Prop} {a idx len : Nat}
/-- what a call of the step gives -/
theorem rf_ivk_at (h : rf_ivk l k N Q pc len a lv st σ ce sl) : ∃ as r, st = as.reverse ++ r ∧ as.length = rf_na a ∧ rf_wt r ≤ 8 ∧ rf_wt as = as.length ∧ rf_rok a as = true ∧ (ce + rf_mc a ≤ rf_mc k ∧ sl + rf_ms a ≤ rf_ms k) ∧ rf_C l a as σ (rf_aft k pc len N Q lv r (ce + rf_mc a) (sl + rf_ms a)) := by
  unfold rf_ivk at h
  cases hp : rf_pop (rf_na a) [] st with
  | none => rw [hp] at h; exact h.elim
  | some q =>
    obtain ⟨as, r⟩ := q
    rw [hp] at h
    obtain ⟨e1, e2⟩ := rf_pop_eq _ _ _ _ _ hp
    cases hb : Nat.ble (rf_wt r) 8 && (Nat.beq (rf_wt as) as.length && rf_rok a as) with
    | false => simp only [hb] at h
    | true =>
      simp only [hb] at h
      simp only [Bool.and_eq_true] at hb
      exact ⟨as, r, by simpa using e1, by simpa using e2, Nat.le_of_ble_eq_true hb.1, Nat.eq_of_beq_eq_true hb.2.1, hb.2.2, h.1, h.2⟩
theorem rf_s_static (hN : ∀ pc lv st σ ce sl, N pc lv st σ ce sl → rf_W l k pc lv st σ ce sl Q) (hk : rf_mok k = true) (ha : a < 165) (hb : rf_rb a = 1000) (hr : rf_fr a + 1 ≤ rf_fr k ∧ 8 + (rf_ml a + 11) + rf_lw a ≤ rf_lw k) (hlink : rf_wok (.methodLink (rf_nm k).cls idx (rf_nm a)))
    (hd : decode (rf_cd k) pc = .ok (.invokestatic idx, 3)) (h : rf_ivk l k N Q pc 3 a lv st σ ce sl) : rf_W l k pc lv st σ ce sl Q := by
  obtain ⟨as, r, hst, hlen, hw8, hwa, hrok, hrm, hC⟩ := rf_ivk_at h
  obtain ⟨w1, w2, w3, w4⟩ := rf_stat ha hb
  refine rf_call (rf_cfall hk ha hr) hN hst hlen hw8 hwa hrm hd (fun N0 H0 D cA bk p e s m args below meth c H locs ls h1 h2 h5 => ?_) hC
  have hw := h1.2.2.2.2.1
  exact rf_goS h1.1 h1.2.1 h1.2.2.2.1 (hw _ hlink.1 hlink.2) (hw _ w1.1 w1.2) (hw _ w2.1 w2.2) (rf_cwall a ha args args s s hw (State.WarmedH.refl s)) w3 w4 rfl (by rw [List.length_map, hlen]) (by rw [hst, List.map_append, List.map_reverse]) hd
/-- the receiver's cell -/
theorem rf_recv {N0 : Nat} {H0 : Heap} {D : va_G} {cA : Nat → ClassId} {bk : Nat × Nat → Nat} {s : State} {H : Heap} {C : String} {T : u_T} {F i : Nat} (hcl : rf_cl[a]? = some (C, T, F)) (h2 : rf_R N0 H0 D cA bk σ s H) (hv : rf_ok σ (.inr (.inr (some (a, i))))) :
    ∃ cellB : Cell, H[rf_ad bk (a, i)]? = some cellB ∧ cellB.vm.isStatics = false ∧ s.vm.findClass C = some cellB.cls := by
  obtain ⟨Y, hC, -⟩ := rf_kcall hcl
  obtain ⟨-, -, -, -, -, hak, hJ, hS, -⟩ := hC
  obtain ⟨ks, q0, hP, he, -⟩ := rf_key hJ hS h2 hv
  rw [rf_cf_obj hak] at he
  obtain ⟨_, -, -, -, -, -, -, -, hK, -⟩ := h2
  obtain ⟨r, hr, cell, q1, q2, q3, -⟩ := hP q0 _ he
  rw [rf_adn hJ]
  exact ⟨cell, q1, by rw [q3]; rfl, by rw [q2]; exact (hK.1 a _ hcl).2.1⟩
theorem rf_rok_at (hb : rf_rb a ≠ 1000) (h : rf_rok a as = true) : ∃ i as', as = .inr (.inr (some (rf_rb a, i))) :: as' := by
  unfold rf_rok at h
  cases hq : Nat.beq (rf_rb a) 1000 with
  | true => exact absurd (Nat.eq_of_beq_eq_true hq) hb
  | false =>
    rw [hq] at h
    rcases as with _ | ⟨x | x | _ | ⟨c, i⟩, as'⟩
    all_goals first | cases h | skip
    have := Nat.eq_of_beq_eq_true h
    exact ⟨i, as', by rw [← this]⟩
theorem rf_s_virtual (hN : ∀ pc lv st σ ce sl, N pc lv st σ ce sl → rf_W l k pc lv st σ ce sl Q) (hk : rf_mok k = true) (ha : a < 165) (hb : rf_rb a ≠ 1000) (hni : (rf_nm a).name ≠ "<init>") (hr : rf_fr a + 1 ≤ rf_fr k ∧ 8 + (rf_ml a + 11) + rf_lw a ≤ rf_lw k) (hlink : rf_wok (.methodLink (rf_nm k).cls idx (rf_nm a)))
    (hd : decode (rf_cd k) pc = .ok (.invokevirtual idx, 3)) (h : rf_ivk l k N Q pc 3 a lv st σ ce sl) : rf_W l k pc lv st σ ce sl Q := by
  obtain ⟨as, r, hst, hlen, hw8, hwa, hrok, hrm, hC⟩ := rf_ivk_at h
  obtain ⟨w1, w2, w3, w4, w5, ⟨T, F, hcl⟩, w6, -⟩ := rf_inst ha hb
  obtain ⟨i, as', rfl⟩ := rf_rok_at hb hrok
  refine rf_call (rf_cfall hk ha hr) hN hst hlen hw8 hwa hrm hd (fun N0 H0 D cA bk p e s m args below meth c H locs ls h1 h2 h5 => ?_) hC
  have hw := h1.2.2.2.2.1
  have w7 := w6 hni
  have hv := h5 (.inr (.inr (some (rf_rb a, i)))) (by rw [hst]; simp)
  exact rf_goV (b := rf_ad bk (rf_rb a, i)) (As := as'.map (rf_lo bk)) h1.1 h1.2.1 h1.2.2.2.1 (hw _ hlink.1 hlink.2) (hw _ w1.1 w1.2) (hw _ w7.1 w7.2) (rf_cwall a ha args args s s hw (State.WarmedH.refl s)) w3 w4 (rf_recv hcl h2 hv) rfl (by rw [List.length_map]; simp only [List.length_cons] at hlen; omega) (by rw [hst]; simp [rf_lo]) hd
theorem rf_s_special (hN : ∀ pc lv st σ ce sl, N pc lv st σ ce sl → rf_W l k pc lv st σ ce sl Q) (hk : rf_mok k = true) (ha : a < 165) (hb : rf_rb a ≠ 1000) (hni : (rf_nm a).name = "<init>") (hrt : rf_rt a = none) (hhh : rf_hh a = []) (hr : rf_fr a + 1 ≤ rf_fr k ∧ 8 + (rf_ml a + 11) + rf_lw a ≤ rf_lw k)
    (hlink : rf_wok (.methodLink (rf_nm k).cls idx (rf_nm a)) ∨ rf_wok (.methodLinkNest (rf_nm k).cls idx (rf_nm a) "FlyingDesk")) (hcode : rf_wok (.code (rf_nm a) (rf_cd a) (rf_ml a) none))
    (hd : decode (rf_cd k) pc = .ok (.invokespecial idx, 3)) (h : rf_ivk l k N Q pc 3 a lv st σ ce sl) : rf_W l k pc lv st σ ce sl Q := by
  obtain ⟨as, r, hst, hlen, hw8, hwa, hrok, hrm, hC⟩ := rf_ivk_at h
  obtain ⟨w1, w2, w3, w4, w5, -, -, -⟩ := rf_inst ha hb
  obtain ⟨i, as', rfl⟩ := rf_rok_at hb hrok
  refine rf_call (rf_cfall hk ha hr) hN hst hlen hw8 hwa hrm hd (fun N0 H0 D cA bk p e s m args below meth c H locs ls h1 h2 h5 => ?_) hC
  have hw := h1.2.2.2.2.1
  rcases hlink with hlink | hlink
  · exact rf_goI (b := rf_ad bk (rf_rb a, i)) (As := as'.map (rf_lo bk)) h1.1 h1.2.1 h1.2.2.2.1 hni (hw _ hlink.1 hlink.2) (hw _ w1.1 w1.2) (hw _ hcode.1 hcode.2) w3 w4 rfl (by rw [List.length_map]; simp only [List.length_cons] at hlen; omega) (by rw [hst]; simp [rf_lo]) hd
  · exact rf_goIN (b := rf_ad bk (rf_rb a, i)) (As := as'.map (rf_lo bk)) h1.1 h1.2.1 h1.2.2.2.1 hni (hw _ hlink.1 hlink.2) (hw _ w1.1 w1.2) (hw _ hcode.1 hcode.2) w3 w4 rfl (by rw [List.length_map]; simp only [List.length_cons] at hlen; omega) (by rw [hst]; simp [rf_lo]) hd
end RFZ
