/-! fields -/
def rf_wok (w : Cond) : Prop := w ∈ rf_tb0 ∧ rf_gw w = true
/-- what is known of the block a of objects -/
def rf_KC (a : Nat) (C : String) (T : u_T) (N : Nat) (Y : Nat → FieldType) : Prop :=
  rf_cl[a]? = some (C, T, N) ∧ (∀ w ∈ u_ws C T N, rf_wok w) ∧ (∀ k, k < N → parseFieldDescriptor (T k).2.2.1 = some (Y k)) ∧ (∀ x, x < N → ∀ y, y < N → x ≠ y → (T x).2.1 ≠ (T y).2.1) ∧ (rf_ft a).length = N ∧ rf_ak a = none ∧ a ≠ rf_J ∧ a ≠ rf_scr ∧ (∀ x, x < N → (T x).1 = C)
section RFO
variable {l : Launch} {k pc : Nat} {N : Nat → List (Option rf_V) → List rf_V → rf_S → Nat → Nat → Prop} {lv : List (Option rf_V)} {st : List rf_V} {σ : rf_S} {ce sl : Nat} {Q : rf_O → rf_S → Prop} {len a b : Nat} {v : Int32}
variable {C : String} {T : u_T} {F : Nat} {Y : Nat → FieldType} {idx : Nat}
/-- one of the block a, read: its cell is in the list -/
theorem rf_key {N0 : Nat} {H0 : Heap} {D : va_G} {cA : Nat → ClassId} {bk : Nat × Nat → Nat} {s : State} {H : Heap} {i : Nat} (hJ : a ≠ rf_J) (hS : a ≠ rf_scr) (hR : rf_R N0 H0 D cA bk σ s H) (hk : rf_ok σ (.inr (.inr (some (a, i))))) :
    ∃ (ks : List (Nat × Nat)) (q0 : Nat), va_P D rf_cl (rf_wl cA bk σ ks) H ∧ (rf_wl cA bk σ ks)[q0]? = some (bk (a, i), rf_cf cA bk σ (a, i)) ∧ (a, i) ∈ ks := by
  obtain ⟨ks, g1, g2, g3, g4, g5, g6, g7, g8, g9⟩ := hR
  have hm : (a, i) ∈ ks := (g2 (a, i)).mpr ⟨hS, hk.elim (fun q => absurd q hJ) id⟩
  obtain ⟨q0, -, h0⟩ := rf_pos (cA := cA) (bk := bk) (σ := σ) hm
  exact ⟨ks, q0, g3, h0, hm⟩
theorem rf_s_getfield (hN : ∀ pc lv st σ ce sl, N pc lv st σ ce sl → rf_W l k pc lv st σ ce sl Q) (hC : rf_KC a C T F Y) (hbF : b < F) (hlink : rf_wok (Cond.fieldLink (rf_nm k).cls idx C (T b).2.1 (T b).2.2.1))
    (hd : decode (rf_cd k) pc = .ok (.getfield idx, len)) (hn : len = 3) (h : rf_step l k N Q pc (.getfield idx, len, a, b, v) lv st σ ce sl) : rf_W l k pc lv st σ ce sl Q := by
  subst hn
  obtain ⟨hcl, hws, hty, hnm, hlen, hak, hJ, hS, hown⟩ := hC
  rcases st with _ | ⟨x | x | _ | ⟨b', i⟩, r⟩
  all_goals first | exact False.elim h | skip
  cases hq : Nat.beq b' a with
  | false => simp only [rf_step, hq] at h
  | true =>
    have e1 := Nat.eq_of_beq_eq_true hq
    subst e1
    obtain ⟨t, ht⟩ : ∃ t, (rf_ft b')[b]? = some t := ⟨_, List.getElem?_eq_getElem (by rw [hlen]; exact hbF)⟩
    have key : ∀ (x : rf_V), (∀ bk, (if t = 2 then va_rf ((σ.2.2.2.1 b' i b).map (rf_ad bk)) else Value.int (σ.2.2.1 b' i b)) = rf_lo bk x) → (rf_ok σ (.inr (.inr (σ.2.2.2.1 b' i b))) → rf_ok σ x) → N (pc + 3) lv (x :: r) σ ce sl → rf_W l k pc lv (.inr (.inr (some (b', i))) :: r) σ ce sl Q := by
      intro x hx hxok hNx
      refine rf_read (fun N0 H0 D cA bk p e R s m args below meth c H locs ls P h1 h2 h5 w => ?_) (fun N0 H0 D cA bk s H hR h5 => ?_) (hN _ _ _ _ _ _ hNx)
      · obtain ⟨ks, q0, hP, he, -⟩ := rf_key hJ hS h2 (h5 _ List.mem_cons_self)
        rw [rf_cf_obj hak] at he
        obtain ⟨_, -, -, -, -, -, -, -, hK, -⟩ := h2
        have e2 : rf_ad bk (b', i) = bk (b', i) := rf_adn hJ
        show W p l e R s m args below meth c H locs ce sl P (F0 m pc ls (.ref (rf_ad bk (b', i)) :: r.map (rf_lo bk)))
        rw [e2]
        refine va_get (own := (rf_nm k).cls) (ref := C) h1.1 h1.2.1 (Ts := u_ws C T F) (fun w hw => h1.2.2.2.2.1 w (hws w hw).1 (hws w hw).2) (fun w hw => hw) h1.2.2.2.1 hK hP q0 he hcl b hbF (h1.2.2.2.2.1 _ hlink.1 hlink.2) (fun x hx => by rw [hown b hbF] at hx; exact hx) (v := rf_lo bk x) ?_ hd w
        rw [rf_fs_get, ht]
        simp only [Option.map_some, Nat.zero_add]
        rw [hx bk]
      · have hk := h5 _ List.mem_cons_self
        obtain ⟨ks, g1, g2, g3, g4, g5, g6, g7, g8, g9⟩ := hR
        exact rf_okc (hxok (g6 (b', i) ((g2 (b', i)).mpr ⟨hS, hk.elim (fun q => absurd q hJ) id⟩) b (Or.inr (by rw [hlen]; exact hbF)))) (rf_okt h5)
    rw [← rf_nth_eq] at ht
    by_cases h2 : t = 2
    · subst h2
      simp only [rf_step, hq, ht] at h
      exact key (.inr (.inr (σ.2.2.2.1 b' i b))) (fun bk => by rw [if_pos rfl, rf_rfV]) (fun hk => hk) h
    · have h' : N (pc + 3) lv (.inl (σ.2.2.1 b' i b) :: r) σ ce sl := by
        rcases t with _ | _ | _ | t
        · simpa only [rf_step, hq, ht] using h
        · simpa only [rf_step, hq, ht] using h
        · exact absurd rfl h2
        · simpa only [rf_step, hq, ht] using h
      exact key (.inl (σ.2.2.1 b' i b)) (fun bk => by rw [if_neg h2]; rfl) (fun _ => trivial) h'
/-- an object's field is set: the world behind it -/
theorem rf_s_putI (hN : ∀ pc lv st σ ce sl, N pc lv st σ ce sl → rf_W l k pc lv st σ ce sl Q) (hC : rf_KC a C T F Y) (hbF : b < F) (hlink : rf_wok (Cond.fieldLink (rf_nm k).cls idx C (T b).2.1 (T b).2.2.1)) (hfin : (T b).2.2.2 = false) {t : Nat} (ht : (rf_ft a)[b]? = some t) (ht2 : t ≠ 2) {x : Int32} {i : Nat} {r : List rf_V}
    (hnr : narrow (Y b) (.int x) = .int x) (hft : fits (Y b) (.int x) = true) (hd : decode (rf_cd k) pc = .ok (.putfield idx, 3)) (h : N (pc + 3) lv r (rf_putI σ a i b x) ce sl) : rf_W l k pc lv (.inl x :: .inr (.inr (some (a, i))) :: r) σ ce sl Q := by
  obtain ⟨hcl, hws, hty, hnm, hlen, hak, hJ, hS, hown⟩ := hC
  refine rf_write (σ' := rf_putI σ a i b x) rfl rfl (fun j => ?_) (fun N0 H0 D cA bk p e R s m args below meth c H locs ls P ks h1 g1 g2 g3 g4 g5 hK h5 w => ?_) (fun _ _ _ q => q) (fun h5 => rf_okt (rf_okt h5)) (hN _ _ _ _ _ _ h)
  · show (if rf_scr = a ∧ 0 = i ∧ j = b then x else _) = _
    rw [if_neg fun q => hS q.1.symm]
  · have hm : (a, i) ∈ ks := (g2 (a, i)).mpr ⟨hS, (h5 _ (List.mem_cons_of_mem _ List.mem_cons_self)).elim (fun q => absurd q hJ) id⟩
    obtain ⟨q0, hq0, he⟩ := rf_pos (cA := cA) (bk := bk) (σ := σ) hm
    have hset := rf_wl_set (cA := cA) (bk := bk) (σ := σ) (σ' := rf_putI σ a i b x) g1 hq0 fun r' _ hne => rf_cf_putI hne
    rw [rf_cf_fieldI hak ht ht2] at hset
    rw [rf_cf_obj hak] at he
    have e2 : rf_ad bk (a, i) = bk (a, i) := rf_adn hJ
    show W p l e R s m args below meth c H locs ce sl P (F0 m pc ls (.int x :: .ref (rf_ad bk (a, i)) :: r.map (rf_lo bk)))
    rw [e2]
    refine va_put (own := (rf_nm k).cls) (ref := C) h1.1 h1.2.1 (Ts := u_ws C T F) (fun w hw => h1.2.2.2.2.1 w (hws w hw).1 (hws w hw).2) (fun w hw => hw) Y hty hnm h1.2.2.2.1 hK g3 g4 g5 q0 he hcl b hbF (h1.2.2.2.2.1 _ hlink.1 hlink.2) (fun x hx => by rw [hown b hbF] at hx; exact hx) hfin (hty b hbF) hnr hft (by rw [rf_fs_len, hlen]; exact hbF) hd fun H1 locs1 f1 f2 f3 => ?_
    rw [hset] at f1 f2
    exact w H1 locs1 f1 f2 f3
theorem rf_s_putP (hN : ∀ pc lv st σ ce sl, N pc lv st σ ce sl → rf_W l k pc lv st σ ce sl Q) (hC : rf_KC a C T F Y) (hbF : b < F) (hlink : rf_wok (Cond.fieldLink (rf_nm k).cls idx C (T b).2.1 (T b).2.2.1)) (hfin : (T b).2.2.2 = true) (hini : (rf_nm k).name = "<init>") (hcls : (rf_nm k).cls = C) (ht : (rf_ft a)[b]? = some 2) {x : Nat × Nat} {i : Nat} {r : List rf_V}
    (hnr : ∀ q, narrow (Y b) (.ref q) = .ref q) (hft : ∀ q, fits (Y b) (.ref q) = true) (hd : decode (rf_cd k) pc = .ok (.putfield idx, 3)) (h : N (pc + 3) lv r (rf_putP σ a i b (some x)) ce sl) : rf_W l k pc lv (.inr (.inr (some x)) :: .inr (.inr (some (a, i))) :: r) σ ce sl Q := by
  obtain ⟨hcl, hws, hty, hnm, hlen, hak, hJ, hS, hown⟩ := hC
  refine rf_write (σ' := rf_putP σ a i b (some x)) rfl rfl (fun j => rfl) (fun N0 H0 D cA bk p e R s m args below meth c H locs ls P ks h1 g1 g2 g3 g4 g5 hK h5 w => ?_) (fun h5 r' j q => ?_) (fun h5 => rf_okt (rf_okt h5)) (hN _ _ _ _ _ _ h)
  · have hm : (a, i) ∈ ks := (g2 (a, i)).mpr ⟨hS, (h5 _ (List.mem_cons_of_mem _ List.mem_cons_self)).elim (fun q => absurd q hJ) id⟩
    obtain ⟨q0, hq0, he⟩ := rf_pos (cA := cA) (bk := bk) (σ := σ) hm
    have hset := rf_wl_set (cA := cA) (bk := bk) (σ := σ) (σ' := rf_putP σ a i b (some x)) g1 hq0 fun r' _ hne => rf_cf_putP hne
    rw [rf_cf_fieldP hak ht] at hset
    rw [rf_cf_obj hak] at he
    have e2 : rf_ad bk (a, i) = bk (a, i) := rf_adn hJ
    show W p l e R s m args below meth c H locs ce sl P (F0 m pc ls (.ref (rf_ad bk x) :: .ref (rf_ad bk (a, i)) :: r.map (rf_lo bk)))
    rw [e2]
    refine va_putF (own := (rf_nm k).cls) (ref := C) h1.1 h1.2.1 (Ts := u_ws C T F) (fun w hw => h1.2.2.2.2.1 w (hws w hw).1 (hws w hw).2) (fun w hw => hw) Y hty hnm h1.2.2.2.1 hK g3 g4 g5 q0 he hcl b hbF (h1.2.2.2.2.1 _ hlink.1 hlink.2) (fun x hx => by rw [hown b hbF] at hx; exact hx) hfin (h1.2.2.2.2.2.2.2.2.1 hini) (by rw [hown b hbF]; exact hcls.symm) (hty b hbF) (hnr _) (hft _) (by rw [rf_fs_len, hlen]; exact hbF) hd fun H1 locs1 f1 f2 f3 => ?_
    have e3 : ((rf_wl cA bk σ ks).set q0 (bk (a, i), .inr (a, (rf_fs bk σ (a, i) 0 (rf_ft a)).set b (.ref (rf_ad bk x))))) = rf_wl cA bk (rf_putP σ a i b (some x)) ks := hset
    rw [e3] at f1 f2
    exact w H1 locs1 f1 f2 f3
  · show rf_ok σ (.inr (.inr (if r'.1 = a ∧ r'.2 = i ∧ j = b then some x else σ.2.2.2.1 r'.1 r'.2 j)))
    by_cases hc : r'.1 = a ∧ r'.2 = i ∧ j = b
    · rw [if_pos hc]; exact h5 _ List.mem_cons_self
    · rw [if_neg hc]; exact q
end RFO
