/-! steps that read and write the picture -/
theorem rf_adn {bk : Nat × Nat → Nat} {b i : Nat} (h : b ≠ rf_J) : rf_ad bk (b, i) = bk (b, i) := if_neg h
theorem rf_cf_obj {cA : Nat → ClassId} {bk : Nat × Nat → Nat} {σ : rf_S} {b i : Nat} (ha : rf_ak b = none) : rf_cf cA bk σ (b, i) = .inr (b, rf_fs bk σ (b, i) 0 (rf_ft b)) := by unfold rf_cf; simp only [ha]
theorem rf_cf_int {cA : Nat → ClassId} {bk : Nat × Nat → Nat} {σ : rf_S} {b i : Nat} (ha : rf_ak b = some 0) : rf_cf cA bk σ (b, i) = .inl (cA b, σ.2.1 b i, .inl (σ.2.2.1 b i)) := by unfold rf_cf; simp only [ha]
theorem rf_cf_long {cA : Nat → ClassId} {bk : Nat × Nat → Nat} {σ : rf_S} {b i : Nat} (ha : rf_ak b = some 1) : rf_cf cA bk σ (b, i) = .inl (cA b, σ.2.1 b i, .inr (.inl (σ.2.2.2.2 b i))) := by unfold rf_cf; simp only [ha]
theorem rf_cf_ref {cA : Nat → ClassId} {bk : Nat × Nat → Nat} {σ : rf_S} {b i : Nat} (ha : rf_ak b = some 2) : rf_cf cA bk σ (b, i) = .inl (cA b, σ.2.1 b i, .inr (.inr (.inr (.inr fun j => (σ.2.2.2.1 b i j).map (rf_ad bk))))) := by unfold rf_cf; simp only [ha]
theorem rf_vin {j : Int32} {n : Nat} (h : 0 ≤ j ∧ j.toNatClampNeg < n) : vp_in j n := by
  rintro (q | q)
  · exact absurd (Int32.lt_iff_toInt_lt.mp q) (by have := Int32.le_iff_toInt_le.mp h.1; omega)
  · omega
section RFH
variable {l : Launch} {k pc pc' : Nat} {lv : List (Option rf_V)} {st r : List rf_V} {σ : rf_S} {ce sl : Nat} {Q : rf_O → rf_S → Prop} {b i j : Nat}
/-- reading: the world is as it was -/
theorem rf_read {st' : List rf_V} (hrow : ∀ (N0 : Nat) (H0 : Heap) (D : va_G) (cA : Nat → ClassId) (bk : Nat × Nat → Nat) (p : Program) (e : Env) (R : Room) (s : State) (m : MethodId) (args : Array Value) (below : List Frame) (meth : Method) (c : Code) (H : Heap) (locs : List Loc) (ls : Array Slot) (P : State → Prop),
      rf_Cx l k N0 H0 p s m args meth c → rf_R N0 H0 D cA bk σ s H → (∀ v ∈ st, rf_ok σ v) →
      W p l e R s m args below meth c H locs ce sl P (F0 m pc' ls (st'.map (rf_lo bk))) → W p l e R s m args below meth c H locs ce sl P (F0 m pc ls (st.map (rf_lo bk))))
    (hok : ∀ (N0 : Nat) (H0 : Heap) (D : va_G) (cA : Nat → ClassId) (bk : Nat × Nat → Nat) (s : State) (H : Heap), rf_R N0 H0 D cA bk σ s H → (∀ v ∈ st, rf_ok σ v) → ∀ v ∈ st', rf_ok σ v) (h : rf_W l k pc' lv st' σ ce sl Q) : rf_W l k pc lv st σ ce sl Q := by
  intro N0 H0 D cA bk p e s m args below meth c H locs ls h1 h2 h3 h4 h5 h6 h7 h8 h9
  exact hrow N0 H0 D cA bk p e _ s m args below meth c H locs ls _ h1 h2 h5 (h N0 H0 D cA bk p e s m args below meth c H locs ls h1 h2 h3 h4 (hok N0 H0 D cA bk s H h2 h5) h6 h7 h8 h9)
/-- writing: the world of σ' comes in its place; no new cell, the same references known -/
theorem rf_write {σ' : rf_S} (hn : σ'.1 = σ.1) (hlen : σ'.2.1 = σ.2.1) (hscr : ∀ j, σ'.2.2.1 rf_scr 0 j = σ.2.2.1 rf_scr 0 j)
    (hrow : ∀ (N0 : Nat) (H0 : Heap) (D : va_G) (cA : Nat → ClassId) (bk : Nat × Nat → Nat) (p : Program) (e : Env) (R : Room) (s : State) (m : MethodId) (args : Array Value) (below : List Frame) (meth : Method) (c : Code) (H : Heap) (locs : List Loc) (ls : Array Slot) (P : State → Prop) (ks : List (Nat × Nat)),
      rf_Cx l k N0 H0 p s m args meth c → ks.Nodup → (∀ r : Nat × Nat, r ∈ ks ↔ r.1 ≠ rf_scr ∧ r.2 < σ.1 r.1) → va_P D rf_cl (rf_wl cA bk σ ks) H → va_D (fun q => N0 ≤ q) (rf_wl cA bk σ ks) → va_S (fun q => N0 ≤ q) H0 H locs → va_K D rf_cl (rf_tys cA) s → (∀ v ∈ st, rf_ok σ v) →
      (∀ (H1 : Heap) (locs1 : List Loc), va_P D rf_cl (rf_wl cA bk σ' ks) H1 → va_D (fun q => N0 ≤ q) (rf_wl cA bk σ' ks) → va_S (fun q => N0 ≤ q) H0 H1 locs1 → W p l e R s m args below meth c H1 locs1 ce sl P (F0 m pc' ls (r.map (rf_lo bk)))) → W p l e R s m args below meth c H locs ce sl P (F0 m pc ls (st.map (rf_lo bk))))
    (hcl : (∀ v ∈ st, rf_ok σ v) → ∀ r : Nat × Nat, ∀ j, rf_ok σ (.inr (.inr (σ.2.2.2.1 r.1 r.2 j))) → rf_ok σ (.inr (.inr (σ'.2.2.2.1 r.1 r.2 j)))) (hr : (∀ v ∈ st, rf_ok σ v) → ∀ v ∈ r, rf_ok σ v)
    (h : rf_W l k pc' lv r σ' ce sl Q) : rf_W l k pc lv st σ ce sl Q := by
  have hok : ∀ v, rf_ok σ v → rf_ok σ' v := fun v hv => by
    rcases v with x | x | _ | x
    · trivial
    · trivial
    · trivial
    · show x.1 = rf_J ∨ x.2 < σ'.1 x.1
      rw [hn]; exact hv
  intro N0 H0 D cA bk p e s m args below meth c H locs ls h1 h2 h3 h4 h5 h6 h7 h8 h9
  obtain ⟨ks, g1, g2, g3, g4, g5, g6, g7, g8, g9⟩ := h2
  refine hrow N0 H0 D cA bk p e _ s m args below meth c H locs ls _ ks h1 g1 g2 g3 g4 ⟨g5.1, g5.2.1, h3⟩ g8 h5 fun H1 locs1 f1 f2 f3 => ?_
  have hx : rf_ex σ bk σ' bk := ⟨fun b => by rw [hn]; exact Nat.le_refl _, fun _ _ => rfl⟩
  refine rf_post (h N0 H0 D cA bk p e s m args below meth c H1 locs1 ls h1 ⟨ks, g1, fun r => by rw [hn]; exact g2 r, f1, f2, ⟨f3.1, f3.2.1, fun _ hz => nomatch hz⟩, fun r hm j hj => hok _ (hcl h5 r j (g6 r hm j (by rw [← hlen]; exact hj))), fun hp => ?_, g8, g9⟩ f3.2.2 (fun v hv => hok v (h4 v hv)) (fun v hv => hok v (hr h5 v hv)) h6 h7 h8 h9)
    fun t ht => rf_B.mono (fun o u hz => rf_Z.grow hx hz) ht
  rw [hn] at hp
  obtain ⟨q1, q2⟩ := g7 hp
  refine ⟨?_, q2⟩
  have e1 : σ'.2.2.1 rf_scr 0 = σ.2.2.1 rf_scr 0 := funext hscr
  rw [hlen, e1]
  exact q1
end RFH
