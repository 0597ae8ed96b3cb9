/-! arrays: read, written -/
def rf_KA (a kd : Nat) (ty : FieldType) : Prop := rf_ak a = some kd ∧ (∀ cA : Nat → ClassId, (rf_tys cA)[a - 100]? = some (cA a, ty)) ∧ a ≠ rf_J ∧ a ≠ rf_scr
section RFA
variable {l : Launch} {k pc : Nat} {N : Nat → List (Option rf_V) → List rf_V → rf_S → Nat → Nat → Prop} {lv : List (Option rf_V)} {σ : rf_S} {ce sl : Nat} {Q : rf_O → rf_S → Prop} {a i : Nat} {j x : Int32} {r : List rf_V}
theorem rf_a_int (hN : ∀ pc lv st σ ce sl, N pc lv st σ ce sl → rf_W l k pc lv st σ ce sl Q) (hA : rf_KA a 0 .int) (hd : decode (rf_cd k) pc = .ok (.iaload, 1)) (hj : 0 ≤ j ∧ j.toNatClampNeg < σ.2.1 a i)
    (h : N (pc + 1) lv (.inl (σ.2.2.1 a i j.toNatClampNeg) :: r) σ ce sl) : rf_W l k pc lv (.inl j :: .inr (.inr (some (a, i))) :: r) σ ce sl Q := by
  obtain ⟨hak, hty, hJ, hS⟩ := hA
  refine rf_read (fun N0 H0 D cA bk p e R s m args below meth c H locs ls P h1 h2 h5 w => ?_) (fun N0 H0 D cA bk s H hR h5 => rf_ok1 (rf_okt (rf_okt h5))) (hN _ _ _ _ _ _ h)
  obtain ⟨ks, q0, hP, he, -⟩ := rf_key hJ hS h2 (h5 _ (List.mem_cons_of_mem _ List.mem_cons_self))
  rw [rf_cf_int hak] at he
  obtain ⟨_, -, -, -, -, -, -, -, hK, -⟩ := h2
  show W p l e R s m args below meth c H locs ce sl P (F0 m pc ls (.int j :: .ref (rf_ad bk (a, i)) :: r.map (rf_lo bk)))
  rw [rf_adn hJ]
  exact va_iald h1.1 h1.2.1 hK hP q0 _ he (hty cA) (rf_vin hj) hd w
theorem rf_a_bool (hN : ∀ pc lv st σ ce sl, N pc lv st σ ce sl → rf_W l k pc lv st σ ce sl Q) (hA : rf_KA a 0 .boolean) (hd : decode (rf_cd k) pc = .ok (.baload, 1)) (hj : 0 ≤ j ∧ j.toNatClampNeg < σ.2.1 a i)
    (h : N (pc + 1) lv (.inl (σ.2.2.1 a i j.toNatClampNeg) :: r) σ ce sl) : rf_W l k pc lv (.inl j :: .inr (.inr (some (a, i))) :: r) σ ce sl Q := by
  obtain ⟨hak, hty, hJ, hS⟩ := hA
  refine rf_read (fun N0 H0 D cA bk p e R s m args below meth c H locs ls P h1 h2 h5 w => ?_) (fun N0 H0 D cA bk s H hR h5 => rf_ok1 (rf_okt (rf_okt h5))) (hN _ _ _ _ _ _ h)
  obtain ⟨ks, q0, hP, he, -⟩ := rf_key hJ hS h2 (h5 _ (List.mem_cons_of_mem _ List.mem_cons_self))
  rw [rf_cf_int hak] at he
  obtain ⟨_, -, -, -, -, -, -, -, hK, -⟩ := h2
  show W p l e R s m args below meth c H locs ce sl P (F0 m pc ls (.int j :: .ref (rf_ad bk (a, i)) :: r.map (rf_lo bk)))
  rw [rf_adn hJ]
  exact va_zald h1.1 h1.2.1 hK hP q0 _ he (hty cA) (rf_vin hj) hd w
theorem rf_a_long (hN : ∀ pc lv st σ ce sl, N pc lv st σ ce sl → rf_W l k pc lv st σ ce sl Q) (hA : rf_KA a 1 .long) (hd : decode (rf_cd k) pc = .ok (.laload, 1)) (hj : 0 ≤ j ∧ j.toNatClampNeg < σ.2.1 a i)
    (h : N (pc + 1) lv (.inr (.inl (σ.2.2.2.2 a i j.toNatClampNeg)) :: r) σ ce sl) : rf_W l k pc lv (.inl j :: .inr (.inr (some (a, i))) :: r) σ ce sl Q := by
  obtain ⟨hak, hty, hJ, hS⟩ := hA
  refine rf_read (fun N0 H0 D cA bk p e R s m args below meth c H locs ls P h1 h2 h5 w => ?_) (fun N0 H0 D cA bk s H hR h5 => rf_okl (rf_okt (rf_okt h5))) (hN _ _ _ _ _ _ h)
  obtain ⟨ks, q0, hP, he, -⟩ := rf_key hJ hS h2 (h5 _ (List.mem_cons_of_mem _ List.mem_cons_self))
  rw [rf_cf_long hak] at he
  obtain ⟨_, -, -, -, -, -, -, -, hK, -⟩ := h2
  show W p l e R s m args below meth c H locs ce sl P (F0 m pc ls (.int j :: .ref (rf_ad bk (a, i)) :: r.map (rf_lo bk)))
  rw [rf_adn hJ]
  exact va_lald h1.1 h1.2.1 hK hP q0 _ he (hty cA) (rf_vin hj) hd w
theorem rf_a_ref {C : String} (hN : ∀ pc lv st σ ce sl, N pc lv st σ ce sl → rf_W l k pc lv st σ ce sl Q) (hA : rf_KA a 2 (.object C)) (hd : decode (rf_cd k) pc = .ok (.aaload, 1)) (hj : 0 ≤ j ∧ j.toNatClampNeg < σ.2.1 a i)
    (h : N (pc + 1) lv (.inr (.inr (σ.2.2.2.1 a i j.toNatClampNeg)) :: r) σ ce sl) : rf_W l k pc lv (.inl j :: .inr (.inr (some (a, i))) :: r) σ ce sl Q := by
  obtain ⟨hak, hty, hJ, hS⟩ := hA
  refine rf_read (fun N0 H0 D cA bk p e R s m args below meth c H locs ls P h1 h2 h5 w => ?_) (fun N0 H0 D cA bk s H hR h5 => ?_) (hN _ _ _ _ _ _ h)
  · obtain ⟨ks, q0, hP, he, -⟩ := rf_key hJ hS h2 (h5 _ (List.mem_cons_of_mem _ List.mem_cons_self))
    rw [rf_cf_ref hak] at he
    obtain ⟨_, -, -, -, -, -, -, -, hK, -⟩ := h2
    show W p l e R s m args below meth c H locs ce sl P (F0 m pc ls (.int j :: .ref (rf_ad bk (a, i)) :: r.map (rf_lo bk)))
    rw [rf_adn hJ]
    refine va_aldq h1.1 h1.2.1 hK hP q0 _ he (hty cA) (rf_vin hj) hd ?_
    rw [rf_rfV]
    exact w
  · have hk := h5 _ (List.mem_cons_of_mem _ List.mem_cons_self)
    obtain ⟨ks, g1, g2, g3, g4, g5, g6, g7, g8, g9⟩ := hR
    exact rf_okc (g6 (a, i) ((g2 (a, i)).mpr ⟨hS, hk.elim (fun q => absurd q hJ) id⟩) _ (Or.inl hj.2)) (rf_okt (rf_okt h5))
theorem rf_a_scr (hN : ∀ pc lv st σ ce sl, N pc lv st σ ce sl → rf_W l k pc lv st σ ce sl Q) (hd : decode (rf_cd k) pc = .ok (.iaload, 1)) (hi : i = 0) (hj : 0 ≤ j ∧ j.toNatClampNeg < σ.2.1 rf_scr i)
    (h : N (pc + 1) lv (.inl (σ.2.2.1 rf_scr i j.toNatClampNeg) :: r) σ ce sl) : rf_W l k pc lv (.inl j :: .inr (.inr (some (rf_scr, i))) :: r) σ ce sl Q := by
  subst hi
  have hJ : rf_scr ≠ rf_J := by decide
  refine rf_read (fun N0 H0 D cA bk p e R s m args below meth c H locs ls P h1 h2 h5 w => ?_) (fun N0 H0 D cA bk s H hR h5 => rf_ok1 (rf_okt (rf_okt h5))) (hN _ _ _ _ _ _ h)
  have hk := (h5 _ (List.mem_cons_of_mem _ List.mem_cons_self)).elim (fun q => absurd q hJ) id
  obtain ⟨_, -, -, -, -, g5, -, g7, -, g9⟩ := h2
  obtain ⟨q1, q2⟩ := g7 hk
  show W p l e R s m args below meth c H locs ce sl P (F0 m pc ls (.int j :: .ref (rf_ad bk (rf_scr, 0)) :: r.map (rf_lo bk)))
  rw [rf_adn hJ]
  obtain ⟨scr, f1, f2, f3, f4, f5⟩ := q1
  have hH : H[bk (rf_scr, 0)]? = some scr := by rw [g5.2.1 _ (by rw [g9]; exact q2) (by show ¬ N0 ≤ _; omega)]; exact f1
  exact W.iald (v := .int (σ.2.2.1 rf_scr 0 j.toNatClampNeg)) h1.1 h1.2.1 hH f2 f3 (by rw [f4]; exact rf_vin hj) (f5 _ hj.2) rfl rfl hd w
theorem rf_l_scr (hN : ∀ pc lv st σ ce sl, N pc lv st σ ce sl → rf_W l k pc lv st σ ce sl Q) (hd : decode (rf_cd k) pc = .ok (.arraylength, 1)) (hi : i = 0)
    (h : N (pc + 1) lv (.inl (Int32.ofNat (σ.2.1 rf_scr i)) :: r) σ ce sl) : rf_W l k pc lv (.inr (.inr (some (rf_scr, i))) :: r) σ ce sl Q := by
  subst hi
  have hJ : rf_scr ≠ rf_J := by decide
  refine rf_read (fun N0 H0 D cA bk p e R s m args below meth c H locs ls P h1 h2 h5 w => ?_) (fun N0 H0 D cA bk s H hR h5 => rf_ok1 (rf_okt h5)) (hN _ _ _ _ _ _ h)
  have hk := (h5 _ List.mem_cons_self).elim (fun q => absurd q hJ) id
  obtain ⟨_, -, -, -, -, g5, -, g7, -, g9⟩ := h2
  obtain ⟨q1, q2⟩ := g7 hk
  show W p l e R s m args below meth c H locs ce sl P (F0 m pc ls (.ref (rf_ad bk (rf_scr, 0)) :: r.map (rf_lo bk)))
  rw [rf_adn hJ]
  obtain ⟨scr, f1, f2, f3, f4, f5⟩ := q1
  have hH : H[bk (rf_scr, 0)]? = some scr := by rw [g5.2.1 _ (by rw [g9]; exact q2) (by show ¬ N0 ≤ _; omega)]; exact f1
  exact W.alen (n := Int32.ofNat (σ.2.1 rf_scr 0)) h1.1 h1.2.1 hH f2 (by rw [f4]) rfl rfl hd w
theorem rf_l_arr {kd : Nat} {ty : FieldType} (hN : ∀ pc lv st σ ce sl, N pc lv st σ ce sl → rf_W l k pc lv st σ ce sl Q) (hA : rf_KA a kd ty) (hkd : kd ≤ 2) (hd : decode (rf_cd k) pc = .ok (.arraylength, 1))
    (h : N (pc + 1) lv (.inl (Int32.ofNat (σ.2.1 a i)) :: r) σ ce sl) : rf_W l k pc lv (.inr (.inr (some (a, i))) :: r) σ ce sl Q := by
  obtain ⟨hak, hty, hJ, hS⟩ := hA
  refine rf_read (fun N0 H0 D cA bk p e R s m args below meth c H locs ls P h1 h2 h5 w => ?_) (fun N0 H0 D cA bk s H hR h5 => rf_ok1 (rf_okt h5)) (hN _ _ _ _ _ _ h)
  obtain ⟨ks, q0, hP, he, -⟩ := rf_key hJ hS h2 (h5 _ List.mem_cons_self)
  obtain ⟨_, -, -, -, -, -, -, -, hK, -⟩ := h2
  show W p l e R s m args below meth c H locs ce sl P (F0 m pc ls (.ref (rf_ad bk (a, i)) :: r.map (rf_lo bk)))
  rw [rf_adn hJ]
  rcases kd with _ | _ | _ | kd
  · rw [rf_cf_int hak] at he
    exact va_alen h1.1 h1.2.1 hK hP q0 _ he (hty cA) rfl hd w
  · rw [rf_cf_long hak] at he
    exact va_alen h1.1 h1.2.1 hK hP q0 _ he (hty cA) rfl hd w
  · rw [rf_cf_ref hak] at he
    exact va_alen h1.1 h1.2.1 hK hP q0 _ he (hty cA) rfl hd w
  · omega
theorem rf_w_int (hN : ∀ pc lv st σ ce sl, N pc lv st σ ce sl → rf_W l k pc lv st σ ce sl Q) (hA : rf_KA a 0 .int) (hd : decode (rf_cd k) pc = .ok (.iastore, 1)) (hj : 0 ≤ j ∧ j.toNatClampNeg < σ.2.1 a i)
    (h : N (pc + 1) lv r (rf_putI σ a i j.toNatClampNeg x) ce sl) : rf_W l k pc lv (.inl x :: .inl j :: .inr (.inr (some (a, i))) :: r) σ ce sl Q := by
  obtain ⟨hak, hty, hJ, hS⟩ := hA
  refine rf_write (σ' := rf_putI σ a i j.toNatClampNeg x) rfl rfl (fun q => ?_) (fun N0 H0 D cA bk p e R s m args below meth c H locs ls P ks h1 g1 g2 g3 g4 g5 hK h5 w => ?_) (fun _ _ _ q => q) (fun h5 => rf_okt (rf_okt (rf_okt h5))) (hN _ _ _ _ _ _ h)
  · show (if rf_scr = a ∧ 0 = i ∧ q = j.toNatClampNeg then x else _) = _
    rw [if_neg fun q => hS q.1.symm]
  · have hm : (a, i) ∈ ks := (g2 (a, i)).mpr ⟨hS, (h5 _ (List.mem_cons_of_mem _ (List.mem_cons_of_mem _ List.mem_cons_self))).elim (fun q => absurd q hJ) id⟩
    obtain ⟨q0, hq0, he⟩ := rf_pos (cA := cA) (bk := bk) (σ := σ) hm
    have hset := rf_wl_set (cA := cA) (bk := bk) (σ := σ) (σ' := rf_putI σ a i j.toNatClampNeg x) g1 hq0 fun r' _ hne => rf_cf_putI hne
    rw [rf_cf_int hak, show (rf_putI σ a i j.toNatClampNeg x).2.2.1 a i = upd (σ.2.2.1 a i) j.toNatClampNeg x from rf_u3_row _ _ _ _ _] at hset
    rw [rf_cf_int hak] at he
    show W p l e R s m args below meth c H locs ce sl P (F0 m pc ls (.int x :: .int j :: .ref (rf_ad bk (a, i)) :: r.map (rf_lo bk)))
    rw [rf_adn hJ]
    refine va_iast h1.1 h1.2.1 hK g3 g4 g5 q0 _ he (hty cA) (rf_vin hj) hd fun H1 locs1 f1 f2 f3 => ?_
    have e3 : ((rf_wl cA bk σ ks).set q0 (bk (a, i), .inl (cA a, σ.2.1 a i, .inl (upd (σ.2.2.1 a i) j.toNatClampNeg x)))) = rf_wl cA bk (rf_putI σ a i j.toNatClampNeg x) ks := hset
    rw [e3] at f1 f2
    exact w H1 locs1 f1 f2 f3
theorem rf_nar01 {x : Int32} (h : x = 0 ∨ x = 1) : vp_nar .boolean x = x := by
  rcases h with rfl | rfl <;> decide
theorem rf_w_bool (hN : ∀ pc lv st σ ce sl, N pc lv st σ ce sl → rf_W l k pc lv st σ ce sl Q) (hA : rf_KA a 0 .boolean) (hd : decode (rf_cd k) pc = .ok (.bastore, 1)) (hx : x = 0 ∨ x = 1) (hj : 0 ≤ j ∧ j.toNatClampNeg < σ.2.1 a i)
    (h : N (pc + 1) lv r (rf_putI σ a i j.toNatClampNeg x) ce sl) : rf_W l k pc lv (.inl x :: .inl j :: .inr (.inr (some (a, i))) :: r) σ ce sl Q := by
  obtain ⟨hak, hty, hJ, hS⟩ := hA
  refine rf_write (σ' := rf_putI σ a i j.toNatClampNeg x) rfl rfl (fun q => ?_) (fun N0 H0 D cA bk p e R s m args below meth c H locs ls P ks h1 g1 g2 g3 g4 g5 hK h5 w => ?_) (fun _ _ _ q => q) (fun h5 => rf_okt (rf_okt (rf_okt h5))) (hN _ _ _ _ _ _ h)
  · show (if rf_scr = a ∧ 0 = i ∧ q = j.toNatClampNeg then x else _) = _
    rw [if_neg fun q => hS q.1.symm]
  · have hm : (a, i) ∈ ks := (g2 (a, i)).mpr ⟨hS, (h5 _ (List.mem_cons_of_mem _ (List.mem_cons_of_mem _ List.mem_cons_self))).elim (fun q => absurd q hJ) id⟩
    obtain ⟨q0, hq0, he⟩ := rf_pos (cA := cA) (bk := bk) (σ := σ) hm
    have hset := rf_wl_set (cA := cA) (bk := bk) (σ := σ) (σ' := rf_putI σ a i j.toNatClampNeg x) g1 hq0 fun r' _ hne => rf_cf_putI hne
    rw [rf_cf_int hak, show (rf_putI σ a i j.toNatClampNeg x).2.2.1 a i = upd (σ.2.2.1 a i) j.toNatClampNeg x from rf_u3_row _ _ _ _ _] at hset
    rw [rf_cf_int hak] at he
    show W p l e R s m args below meth c H locs ce sl P (F0 m pc ls (.int x :: .int j :: .ref (rf_ad bk (a, i)) :: r.map (rf_lo bk)))
    rw [rf_adn hJ]
    refine va_zast h1.1 h1.2.1 hK g3 g4 g5 q0 _ he (hty cA) (rf_vin hj) hd fun H1 locs1 f1 f2 f3 => ?_
    have e3 : ((rf_wl cA bk σ ks).set q0 (bk (a, i), .inl (cA a, σ.2.1 a i, .inl (upd (σ.2.2.1 a i) j.toNatClampNeg x)))) = rf_wl cA bk (rf_putI σ a i j.toNatClampNeg x) ks := hset
    rw [rf_nar01 hx, e3] at f1 f2
    exact w H1 locs1 f1 f2 f3
theorem rf_w_long {x : Int64} (hN : ∀ pc lv st σ ce sl, N pc lv st σ ce sl → rf_W l k pc lv st σ ce sl Q) (hA : rf_KA a 1 .long) (hd : decode (rf_cd k) pc = .ok (.lastore, 1)) (hj : 0 ≤ j ∧ j.toNatClampNeg < σ.2.1 a i)
    (h : N (pc + 1) lv r (rf_putL σ a i j.toNatClampNeg x) ce sl) : rf_W l k pc lv (.inr (.inl x) :: .inl j :: .inr (.inr (some (a, i))) :: r) σ ce sl Q := by
  obtain ⟨hak, hty, hJ, hS⟩ := hA
  refine rf_write (σ' := rf_putL σ a i j.toNatClampNeg x) rfl rfl (fun q => rfl) (fun N0 H0 D cA bk p e R s m args below meth c H locs ls P ks h1 g1 g2 g3 g4 g5 hK h5 w => ?_) (fun _ _ _ q => q) (fun h5 => rf_okt (rf_okt (rf_okt h5))) (hN _ _ _ _ _ _ h)
  have hm : (a, i) ∈ ks := (g2 (a, i)).mpr ⟨hS, (h5 _ (List.mem_cons_of_mem _ (List.mem_cons_of_mem _ List.mem_cons_self))).elim (fun q => absurd q hJ) id⟩
  obtain ⟨q0, hq0, he⟩ := rf_pos (cA := cA) (bk := bk) (σ := σ) hm
  have hset := rf_wl_set (cA := cA) (bk := bk) (σ := σ) (σ' := rf_putL σ a i j.toNatClampNeg x) g1 hq0 fun r' _ hne => rf_cf_putL hne
  rw [rf_cf_long hak, show (rf_putL σ a i j.toNatClampNeg x).2.2.2.2 a i = vp_updL (σ.2.2.2.2 a i) j.toNatClampNeg x from rf_u3_row _ _ _ _ _] at hset
  rw [rf_cf_long hak] at he
  show W p l e R s m args below meth c H locs ce sl P (F0 m pc ls (.long x :: .int j :: .ref (rf_ad bk (a, i)) :: r.map (rf_lo bk)))
  rw [rf_adn hJ]
  refine va_last h1.1 h1.2.1 hK g3 g4 g5 q0 _ he (hty cA) (rf_vin hj) hd fun H1 locs1 f1 f2 f3 => ?_
  have e3 : ((rf_wl cA bk σ ks).set q0 (bk (a, i), .inl (cA a, σ.2.1 a i, .inr (.inl (vp_updL (σ.2.2.2.2 a i) j.toNatClampNeg x))))) = rf_wl cA bk (rf_putL σ a i j.toNatClampNeg x) ks := hset
  rw [e3] at f1 f2
  exact w H1 locs1 f1 f2 f3
theorem rf_w_ref {C : String} {T : u_T} {F : Nat} {Y : Nat → FieldType} {b2 i2 : Nat} (hN : ∀ pc lv st σ ce sl, N pc lv st σ ce sl → rf_W l k pc lv st σ ce sl Q) (hA : rf_KA a 2 (.object C)) (hC : rf_KC b2 C T F Y) (hd : decode (rf_cd k) pc = .ok (.aastore, 1)) (hj : 0 ≤ j ∧ j.toNatClampNeg < σ.2.1 a i)
    (h : N (pc + 1) lv r (rf_putP σ a i j.toNatClampNeg (some (b2, i2))) ce sl) : rf_W l k pc lv (.inr (.inr (some (b2, i2))) :: .inl j :: .inr (.inr (some (a, i))) :: r) σ ce sl Q := by
  obtain ⟨hak, hty, hJ, hS⟩ := hA
  obtain ⟨hcl, hws, hty2, hnm, hlen, hak2, hJ2, hS2, hown⟩ := hC
  refine rf_write (σ' := rf_putP σ a i j.toNatClampNeg (some (b2, i2))) rfl rfl (fun q => rfl) (fun N0 H0 D cA bk p e R s m args below meth c H locs ls P ks h1 g1 g2 g3 g4 g5 hK h5 w => ?_) (fun h5 r' n q => ?_) (fun h5 => rf_okt (rf_okt (rf_okt h5))) (hN _ _ _ _ _ _ h)
  · have hm : (a, i) ∈ ks := (g2 (a, i)).mpr ⟨hS, (h5 _ (List.mem_cons_of_mem _ (List.mem_cons_of_mem _ List.mem_cons_self))).elim (fun q => absurd q hJ) id⟩
    have hm2 : (b2, i2) ∈ ks := (g2 (b2, i2)).mpr ⟨hS2, (h5 _ List.mem_cons_self).elim (fun q => absurd q hJ2) id⟩
    obtain ⟨q0, hq0, he⟩ := rf_pos (cA := cA) (bk := bk) (σ := σ) hm
    obtain ⟨q2, hq2, he2⟩ := rf_pos (cA := cA) (bk := bk) (σ := σ) hm2
    have hset := rf_wl_set (cA := cA) (bk := bk) (σ := σ) (σ' := rf_putP σ a i j.toNatClampNeg (some (b2, i2))) g1 hq0 fun r' _ hne => rf_cf_putP hne
    have hrow : (fun n => ((rf_putP σ a i j.toNatClampNeg (some (b2, i2))).2.2.2.1 a i n).map (rf_ad bk)) = va_up (fun n => (σ.2.2.2.1 a i n).map (rf_ad bk)) j.toNatClampNeg (some (bk (b2, i2))) := by
      funext n
      show (rf_u3 σ.2.2.2.1 a i j.toNatClampNeg (some (b2, i2)) a i n).map (rf_ad bk) = _
      rw [rf_u3_row]
      by_cases hn : n = j.toNatClampNeg
      · simp [va_up, hn, rf_adn hJ2]
      · simp [va_up, hn]
    rw [rf_cf_ref hak, hrow] at hset
    rw [rf_cf_ref hak] at he
    rw [rf_cf_obj hak2] at he2
    show W p l e R s m args below meth c H locs ce sl P (F0 m pc ls (.ref (rf_ad bk (b2, i2)) :: .int j :: .ref (rf_ad bk (a, i)) :: r.map (rf_lo bk)))
    rw [rf_adn hJ, rf_adn hJ2]
    refine va_astq h1.1 h1.2.1 hK g3 g4 g5 q0 _ q2 b2 he (r := (C, T, F)) (hty cA) he2 hcl (rf_vin hj) hd fun H1 locs1 f1 f2 f3 => ?_
    have e3 : ((rf_wl cA bk σ ks).set q0 (bk (a, i), .inl (cA a, σ.2.1 a i, .inr (.inr (.inr (.inr (va_up (fun n => (σ.2.2.2.1 a i n).map (rf_ad bk)) j.toNatClampNeg (some (bk (b2, i2)))))))))) = rf_wl cA bk (rf_putP σ a i j.toNatClampNeg (some (b2, i2))) ks := hset
    rw [e3] at f1 f2
    exact w H1 locs1 f1 f2 f3
  · show rf_ok σ (.inr (.inr (if r'.1 = a ∧ r'.2 = i ∧ n = j.toNatClampNeg then some (b2, i2) else σ.2.2.2.1 r'.1 r'.2 n)))
    by_cases hc : r'.1 = a ∧ r'.2 = i ∧ n = j.toNatClampNeg
    · rw [if_pos hc]; exact h5 _ List.mem_cons_self
    · rw [if_neg hc]; exact q
end RFA
