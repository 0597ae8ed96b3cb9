/-! the steps that make something; the ends; Object's constructor -/
section RFG
variable {l : Launch} {k pc pc' : Nat} {N : Nat → List (Option rf_V) → List rf_V → rf_S → Nat → Nat → Prop} {lv : List (Option rf_V)} {st r : List rf_V} {σ : rf_S} {ce sl : Nat} {Q : rf_O → rf_S → Prop} {a b n idx : Nat}
variable {C : String} {T : u_T} {F : Nat} {Y : Nat → FieldType}
/-- the picture has grown by one; the walk goes on in it -/
theorem rf_made (hJ : a ≠ rf_J) {N0 : Nat} {H0 H1 : Heap} {D : va_G} {cA : Nat → ClassId} {bk bk' : Nat × Nat → Nat} {p : Program} {e : Env} {s : State} {m : MethodId} {args : Array Value} {below : List Frame} {meth : Method} {c : Code} {locs : List Loc} {ls : Array Slot} {q ce' sl' : Nat} {σ' : rf_S}
    (h : rf_W l k pc' lv (.inr (.inr (some (a, n))) :: r) σ' ce' sl' Q) (h1 : rf_Cx l k N0 H0 p s m args meth c) (hR : rf_R N0 H0 D cA bk' σ' s H1) (hex : rf_ex σ bk σ' bk') (hq : bk' (a, n) = q) (hn : n < σ'.1 a) (h3 : ∀ z ∈ locs, N0 ≤ z.base) (h4 : ∀ v, some v ∈ lv → rf_ok σ v) (h5 : ∀ v ∈ r, rf_ok σ v)
    (h6 : lv_has ls (rf_ml k) (rf_ll bk 0 lv)) (h7 : lv.length = rf_ml k) (h8 : ce' ≤ rf_mc k) (h9 : sl' ≤ rf_ms k) :
    W p l e (rf_rm k) s m args below meth c H1 locs ce' sl' (rf_B s below N0 (rf_mc k) (rf_ms k) (rf_Z N0 H0 D cA bk σ s Q)) (F0 m pc' ls (.ref q :: r.map (rf_lo bk))) := by
  have e1 : rf_lo bk' (.inr (.inr (some (a, n)))) = .ref q := by
    show Value.ref (rf_ad bk' (a, n)) = _
    rw [rf_adn hJ, hq]
  have e2 := hex.st h5
  have e3 := hex.ll lv 0 h4
  have hw := h N0 H0 D cA bk' p e s m args below meth c H1 locs ls h1 hR h3 (fun v hv => hex.ok (h4 v hv)) (rf_okc (Or.inr hn) fun v hv => hex.ok (h5 v hv)) (by rw [e3]; exact h6) h7 h8 h9
  rw [List.map_cons, e1, e2] at hw
  exact rf_post hw fun t ht => rf_B.mono (fun o u hz => rf_Z.grow hex hz) ht
theorem rf_s_new (hN : ∀ pc lv st σ ce sl, N pc lv st σ ce sl → rf_W l k pc lv st σ ce sl Q) (hC : rf_KC a C T F Y) (hdef : ∀ j t, (rf_ft a)[j]? = some t → defaultValue (Y j) = if t = 2 then .null else .int 0) (hclk : rf_wok (.classLink (rf_nm k).cls idx C)) (hins : rf_wok (.instantiable C F)) (hini : rf_wok (.initialized C))
    (hd : decode (rf_cd k) pc = .ok (.new idx, 3)) (hrm : ce + 1 ≤ rf_mc k ∧ sl + F ≤ rf_ms k) (h : N (pc + 3) lv (.inr (.inr (some (a, σ.1 a))) :: st) (rf_newK σ a F) (ce + 1) (sl + F)) : rf_W l k pc lv st σ ce sl Q := by
  obtain ⟨hcl, hws, hty, hnm, hlen, hak, hJ, hS, hown⟩ := hC
  intro N0 H0 D cA bk p e s m args below meth c H locs ls h1 h2 h3 h4 h5 h6 h7 h8 h9
  obtain ⟨ks, g1, g2, g3, g4, g5, g6, g7, g8, g9⟩ := h2
  refine va_new (own := (rf_nm k).cls) h1.1 h1.2.1 (Ts := u_ws C T F) (fun w hw => h1.2.2.2.2.1 w (hws w hw).1 (hws w hw).2) (fun w hw => hw) Y hty h1.2.2.2.1 (h1.2.2.2.2.1 _ hclk.1 hclk.2) (h1.2.2.2.2.1 _ hins.1 hins.2) (h1.2.2.2.2.1 _ hini.1 hini.2) g8 g3 g4 (⟨g5.1, g5.2.1, h3⟩ : va_S _ H0 H locs) (fun q hq => by rw [g9] at hq; exact hq) hcl (fs := rf_fs bk (rf_newK σ a F) (a, σ.1 a) 0 (rf_ft a)) (fun j hj => ?_) hrm.1 hrm.2 hd fun q H1 f1 f2 f3 => ?_
  · obtain ⟨t, ht⟩ : ∃ t, (rf_ft a)[j]? = some t := ⟨_, List.getElem?_eq_getElem (by rw [hlen]; exact hj)⟩
    rw [hdef j t ht, vp_V, List.getD_eq_getElem?_getD, rf_fs_get, ht]
    simp only [Option.map_some, Option.getD_some, Nat.zero_add]
    rw [show (rf_newK σ a F).2.2.2.1 a (σ.1 a) j = none from rf_newK_self _ _ _ _ _, show (rf_newK σ a F).2.2.1 a (σ.1 a) j = 0 from rf_newK_self _ _ _ _ _]
    rfl
  · have hx : rf_cf cA (rf_bk1 bk (a, σ.1 a) q) (rf_newK σ a F) (a, σ.1 a) = .inr (a, rf_fs bk (rf_newK σ a F) (a, σ.1 a) 0 (rf_ft a)) := by
      rw [rf_cf_obj hak]
      congr 2
      apply List.ext_getElem?
      intro n
      rw [rf_fs_get, rf_fs_get]
      simp only [Nat.zero_add]
      rw [show (rf_newK σ a F).2.2.2.1 a (σ.1 a) n = none from rf_newK_self _ _ _ _ _]
      rfl
    obtain ⟨hR, hex⟩ := rf_grow (n := F) (H := H) hS g1 g2 g6 g7 g8 g9 hx f1 f2 f3
    exact rf_made hJ (hN _ _ _ _ _ _ h) h1 hR hex (if_pos rfl) (by show σ.1 a < (if a = a then σ.1 a + 1 else _); rw [if_pos rfl]; omega) f3.2.2 h4 h5 h6 h7 hrm.1 hrm.2
theorem rf_s_newarray {at9 : ArrayType} {ty : FieldType} {x : Int32} {kd : Nat} (hN : ∀ pc lv st σ ce sl, N pc lv st σ ce sl → rf_W l k pc lv st σ ce sl Q) (hA : rf_KA a kd ty) (hkd : kd ≤ 1) (hty9 : newarray.typeOf at9 = ty) (hz : kd = 0 → defaultValue ty = .int 0) (hz1 : kd = 1 → defaultValue ty = .long 0) (hcb : componentBytes ty ≤ 8)
    (haw : rf_wok (.arrayClass ty)) (hd : decode (rf_cd k) pc = .ok (.newarray at9, 2)) (hrm : 0 ≤ x ∧ x.toNatClampNeg ≤ 1000 ∧ ce + 1 ≤ rf_mc k ∧ sl + x.toNatClampNeg ≤ rf_ms k)
    (h : N (pc + 2) lv (.inr (.inr (some (a, σ.1 a))) :: r) (rf_newK σ a x.toNatClampNeg) (ce + 1) (sl + x.toNatClampNeg)) : rf_W l k pc lv (.inl x :: r) σ ce sl Q := by
  obtain ⟨hak, hty, hJ, hS⟩ := hA
  intro N0 H0 D cA bk p e s m args below meth c H locs ls h1 h2 h3 h4 h5 h6 h7 h8 h9
  obtain ⟨ks, g1, g2, g3, g4, g5, g6, g7, g8, g9⟩ := h2
  have hlt : ¬ x < 0 := fun q => by have := Int32.lt_iff_toInt_lt.mp q; have := Int32.le_iff_toInt_le.mp hrm.1; omega
  have hbytes : x.toNatClampNeg * componentBytes ty ≤ 536870912 := by
    have := Nat.mul_le_mul hrm.2.1 hcb
    omega
  have hcA : ∀ cA' : ClassId, va_K D rf_cl (rf_tys cA ++ [(cA', ty)]) s → cA' = cA a := fun cA' hK' => by
    have q1 := (hK'.2 (rf_tys cA).length (cA', ty) (by rw [List.getElem?_append_right (Nat.le_refl _)]; simp)).2
    have q2 := (g8.2 _ _ (hty cA)).2
    exact rf_RA_eq q1 q2
  rcases kd with _ | _ | kd
  · refine va_newa h1.1 h1.2.1 (by rw [hty9]; exact h1.2.2.2.2.1 _ haw.1 haw.2) hty9 g8 g3 g4 (⟨g5.1, g5.2.1, h3⟩ : va_S _ H0 H locs) (fun q hq => by rw [g9] at hq; exact hq) (a0 := (x.toNatClampNeg, .inl fun _ => 0)) (fun cA' => by rw [vp_cell_i, hz rfl]) hlt rfl hbytes hrm.2.2.1 hrm.2.2.2 hd fun q cA' H1 hK' f1 f2 f3 => ?_
    have := hcA cA' hK'
    subst this
    have hx : rf_cf cA (rf_bk1 bk (a, σ.1 a) q) (rf_newK σ a x.toNatClampNeg) (a, σ.1 a) = .inl (cA a, (x.toNatClampNeg, .inl fun _ => 0)) := by
      rw [rf_cf_int hak, show (rf_newK σ a x.toNatClampNeg).2.1 a (σ.1 a) = x.toNatClampNeg from by simp [rf_newK, rf_u2], show (rf_newK σ a x.toNatClampNeg).2.2.1 a (σ.1 a) = fun _ => 0 from funext fun j => rf_newK_self _ _ _ _ _]
    obtain ⟨hR, hex⟩ := rf_grow (n := x.toNatClampNeg) (H := H) hS g1 g2 g6 g7 g8 g9 hx f1 f2 f3
    exact rf_made hJ (hN _ _ _ _ _ _ h) h1 hR hex (if_pos rfl) (by show σ.1 a < (if a = a then σ.1 a + 1 else _); rw [if_pos rfl]; omega) f3.2.2 h4 (rf_okt h5) h6 h7 hrm.2.2.1 hrm.2.2.2
  · refine va_newa h1.1 h1.2.1 (by rw [hty9]; exact h1.2.2.2.2.1 _ haw.1 haw.2) hty9 g8 g3 g4 (⟨g5.1, g5.2.1, h3⟩ : va_S _ H0 H locs) (fun q hq => by rw [g9] at hq; exact hq) (a0 := (x.toNatClampNeg, .inr (.inl fun _ => 0))) (fun cA' => by rw [vp_cell_l, hz1 rfl]) hlt rfl hbytes hrm.2.2.1 hrm.2.2.2 hd fun q cA' H1 hK' f1 f2 f3 => ?_
    have := hcA cA' hK'
    subst this
    have hx : rf_cf cA (rf_bk1 bk (a, σ.1 a) q) (rf_newK σ a x.toNatClampNeg) (a, σ.1 a) = .inl (cA a, (x.toNatClampNeg, .inr (.inl fun _ => 0))) := by
      rw [rf_cf_long hak, show (rf_newK σ a x.toNatClampNeg).2.1 a (σ.1 a) = x.toNatClampNeg from by simp [rf_newK, rf_u2], show (rf_newK σ a x.toNatClampNeg).2.2.2.2 a (σ.1 a) = fun _ => 0 from funext fun j => rf_newK_self _ _ _ _ _]
    obtain ⟨hR, hex⟩ := rf_grow (n := x.toNatClampNeg) (H := H) hS g1 g2 g6 g7 g8 g9 hx f1 f2 f3
    exact rf_made hJ (hN _ _ _ _ _ _ h) h1 hR hex (if_pos rfl) (by show σ.1 a < (if a = a then σ.1 a + 1 else _); rw [if_pos rfl]; omega) f3.2.2 h4 (rf_okt h5) h6 h7 hrm.2.2.1 hrm.2.2.2
  · omega
theorem rf_s_anewarray {x : Int32} (hN : ∀ pc lv st σ ce sl, N pc lv st σ ce sl → rf_W l k pc lv st σ ce sl Q) (hA : rf_KA a 2 (.object C)) (hclk : rf_wok (.classLink (rf_nm k).cls idx C)) (hov : rf_wok (.arrayOver (.object C)))
    (hd : decode (rf_cd k) pc = .ok (.anewarray idx, 3)) (hrm : 0 ≤ x ∧ x.toNatClampNeg ≤ 1000 ∧ ce + 1 ≤ rf_mc k ∧ sl + x.toNatClampNeg ≤ rf_ms k)
    (h : N (pc + 3) lv (.inr (.inr (some (a, σ.1 a))) :: r) (rf_newK σ a x.toNatClampNeg) (ce + 1) (sl + x.toNatClampNeg)) : rf_W l k pc lv (.inl x :: r) σ ce sl Q := by
  obtain ⟨hak, hty, hJ, hS⟩ := hA
  intro N0 H0 D cA bk p e s m args below meth c H locs ls h1 h2 h3 h4 h5 h6 h7 h8 h9
  obtain ⟨ks, g1, g2, g3, g4, g5, g6, g7, g8, g9⟩ := h2
  have hlt : ¬ x < 0 := fun q => by have := Int32.lt_iff_toInt_lt.mp q; have := Int32.le_iff_toInt_le.mp hrm.1; omega
  refine va_newq (own := (rf_nm k).cls) h1.1 h1.2.1 h1.2.2.2.1 (h1.2.2.2.2.1 _ hclk.1 hclk.2) (va_AO.of (h1.2.2.2.2.1 _ hov.1 hov.2)) g8 g3 g4 (⟨g5.1, g5.2.1, h3⟩ : va_S _ H0 H locs) (fun q hq => by rw [g9] at hq; exact hq) hlt rfl (by omega) hrm.2.2.1 hrm.2.2.2 hd fun q cA' H1 hK' f1 f2 f3 => ?_
  have hc : cA' = cA a := rf_RA_eq (hK'.2 (rf_tys cA).length (cA', .object C) (by rw [List.getElem?_append_right (Nat.le_refl _)]; simp)).2 (g8.2 _ _ (hty cA)).2
  subst hc
  have hx : rf_cf cA (rf_bk1 bk (a, σ.1 a) q) (rf_newK σ a x.toNatClampNeg) (a, σ.1 a) = .inl (cA a, (x.toNatClampNeg, .inr (.inr (.inr (.inr fun _ => none))))) := by
    rw [rf_cf_ref hak, show (rf_newK σ a x.toNatClampNeg).2.1 a (σ.1 a) = x.toNatClampNeg from by simp [rf_newK, rf_u2]]
    congr 7
    funext j
    rw [show (rf_newK σ a x.toNatClampNeg).2.2.2.1 a (σ.1 a) j = none from rf_newK_self _ _ _ _ _]
    rfl
  obtain ⟨hR, hex⟩ := rf_grow (n := x.toNatClampNeg) (H := H) hS g1 g2 g6 g7 g8 g9 hx f1 f2 f3
  exact rf_made hJ (hN _ _ _ _ _ _ h) h1 hR hex (if_pos rfl) (by show σ.1 a < (if a = a then σ.1 a + 1 else _); rw [if_pos rfl]; omega) f3.2.2 h4 (rf_okt h5) h6 h7 hrm.2.2.1 hrm.2.2.2
end RFG
section RFE
variable {p : Program} {l : Launch} {e : Env} {R : Room} {s : State} {m : MethodId} {args : Array Value} {below : List Frame} {meth : Method} {c : Code} {H : Heap} {locs : List Loc} {cells slots : Nat}
theorem rf_end {N0 mc ms : Nat} {Z : Outcome → State → Prop} {v : Option Value} {g : JFrame} (h : W p l e R s m args below meth c H locs cells slots (MQ below (fun _ _ o t => o = .returned v ∧ t.heap = H) args s cells slots (fun q => N0 ≤ q)) g) (hz : ∀ t : State, t.heap = H → Z (.returned v) t) (hc : cells ≤ mc) (hs : slots ≤ ms) :
    W p l e R s m args below meth c H locs cells slots (rf_B s below N0 mc ms Z) g :=
  rf_post h fun t ⟨o, b1, b2, ⟨b3, b4⟩, L, ⟨_, b5, b6⟩, b7⟩ => by
    subst b3
    exact ⟨_, L, b1, b2, b5, b6.mono hc hs, b7, hz t b4⟩
end RFE
section RFF
variable {l : Launch} {k pc : Nat} {N : Nat → List (Option rf_V) → List rf_V → rf_S → Nat → Nat → Prop} {lv : List (Option rf_V)} {σ : rf_S} {ce sl : Nat} {Q : rf_O → rf_S → Prop} {x : Int32} {idx : Nat}
theorem rf_s_ireturn {ty : FieldType} (hr : rf_rt k = some ty) (hn : narrow ty (.int x) = .int x) (hd : decode (rf_cd k) pc = .ok (.ireturn, 1)) (h : Q (.inl (some (.inl x))) σ) : rf_W l k pc lv [.inl x] σ ce sl Q := by
  intro N0 H0 D cA bk p e s m args below meth c H locs ls h1 h2 h3 h4 h5 h6 h7 h8 h9
  exact rf_end (W.zret h1.1 h1.2.1 (h1.2.2.2.2.2.1.trans hr) hn (fun t ht _ => ⟨rfl, ht⟩) h3 hd h1.2.2.2.2.2.2.1) (fun t ht => ⟨.inl (some (.inl x)), σ, bk, h, rfl, trivial, by rw [ht]; exact h2, rf_ex.refl _ _⟩) h8 h9
theorem rf_s_return (hr : rf_rt k = none) (hd : decode (rf_cd k) pc = .ok (.return_, 1)) (h : Q (.inl none) σ) : rf_W l k pc lv [] σ ce sl Q := by
  intro N0 H0 D cA bk p e s m args below meth c H locs ls h1 h2 h3 h4 h5 h6 h7 h8 h9
  exact rf_end (W.vret h1.1 h1.2.1 (h1.2.2.2.2.2.1.trans hr) (fun t ht _ => ⟨rfl, ht⟩) h3 hd h1.2.2.2.2.2.2.1) (fun t ht => ⟨.inl none, σ, bk, h, rfl, trivial, by rw [ht]; exact h2, rf_ex.refl _ _⟩) h8 h9
theorem rf_s_areturn {C : String} {r : Nat × Nat} (hr : rf_rt k = some (.object C)) (hd : decode (rf_cd k) pc = .ok (.areturn, 1)) (h : Q (.inl (some (.inr (.inr (some r))))) σ) : rf_W l k pc lv [.inr (.inr (some r))] σ ce sl Q := by
  intro N0 H0 D cA bk p e s m args below meth c H locs ls h1 h2 h3 h4 h5 h6 h7 h8 h9
  exact rf_end (W.aret h1.1 h1.2.1 (h1.2.2.2.2.2.1.trans hr) (Or.inl ⟨C, rfl⟩) (Or.inr ⟨_, rfl⟩) (fun t ht _ => ⟨rfl, ht⟩) h3 hd h1.2.2.2.2.2.2.1) (fun t ht => ⟨.inl (some (.inr (.inr (some r)))), σ, bk, h, rfl, h5 _ List.mem_cons_self, by rw [ht]; exact h2, rf_ex.refl _ _⟩) h8 h9
theorem rf_s_objinit {r : Nat × Nat} (hN : ∀ pc lv st σ ce sl, N pc lv st σ ce sl → rf_W l k pc lv st σ ce sl Q) (hlink : rf_wok (.methodLink (rf_nm k).cls idx Lib.objectInit)) (hinst : rf_wok (.instanceMethod Lib.objectInit)) (hcode : rf_wok (.code Lib.objectInit ⟨#[0xb1]⟩ 1 none)) (hfr : 1 ≤ rf_fr k) (hlw : 12 ≤ rf_lw k)
    (hd : decode (rf_cd k) pc = .ok (.invokespecial idx, 3)) (h : N (pc + 3) lv [] σ ce sl) : rf_W l k pc lv [.inr (.inr (some r))] σ ce sl Q := by
  intro N0 H0 D cA bk p e s m args below meth c H locs ls h1 h2 h3 h4 h5 h6 h7 h8 h9
  exact W.objInit h1.1 h1.2.1 h1.2.2.2.1 (h1.2.2.2.2.1 _ hlink.1 hlink.2) (h1.2.2.2.2.1 _ hinst.1 hinst.2) (h1.2.2.2.2.1 _ hcode.1 hcode.2) (g := F0 m pc ls [.ref (rf_ad bk r)]) rfl (h6.1.trans h1.2.2.1.symm) (rest := []) rfl hd hfr (by show 2 * 0 + 0 + 12 ≤ rf_lw k; omega)
    (hN _ _ _ _ _ _ h N0 H0 D cA bk p e s m args below meth c H locs ls h1 h2 h3 h4 (fun _ hv => nomatch hv) h6 h7 h8 h9)
end RFF
