/-! a call of the picture is a call of the machine -/
def rf_cw (a : Nat) : Prop := ∀ (args a' : Array Value) (s U : State), (∀ w, w ∈ rf_tb0 → rf_gw w = true → w.before args s = true) → s.WarmedH U.vm → (Cond.codeWith (rf_nm a) (rf_cd a) (rf_ml a) (rf_rt a) (rf_hh a)).before a' U = true
theorem rf_cw_code {a : Nat} (h : rf_wok (.code (rf_nm a) (rf_cd a) (rf_ml a) (rf_rt a))) (hh : rf_hh a = []) : rf_cw a := by
  intro args a' s U hw hW
  rw [hh]
  exact rf_codeWith (rf_warm h.2 hW (hw _ h.1 h.2))
theorem rf_cw_with {a : Nat} (h : rf_wok (.codeWith (rf_nm a) (rf_cd a) (rf_ml a) (rf_rt a) (rf_hh a))) : rf_cw a := fun args a' s U hw hW => rf_warm h.2 hW (hw _ h.1 h.2)
def rf_CF (k a : Nat) : Prop := plainFor (rf_nm a) = true ∧ rf_cw a ∧ (rf_fr a + 1 ≤ rf_fr k ∧ 8 + (rf_ml a + 11) + rf_lw a ≤ rf_lw k) ∧ rf_na a ≤ rf_ml a ∧ rf_hok k ∧ (rf_hx k).length = (rf_hh k).length ∧ (∀ q ∈ rf_hx k, q.2.2.2 < 3) ∧ (∀ x, x < 3 → rf_wok (.castable (rf_xn x) (rf_xn x))) ∧ ∀ x y, x < 3 → y < 3 → y ≠ x → rf_wok (.not (.castable (rf_xn x) (rf_xn y)))
theorem rf_hg_lt {pc x h : Nat} : ∀ l : List (Nat × Nat × Nat × Nat), (∀ q ∈ l, q.2.2.2 < 3) → rf_hg pc x l = some h → x < 3
  | [], _, hg => by simp [rf_hg] at hg
  | q :: t, hl, hg => by
    cases h3 : Nat.beq q.2.2.2 x with
    | true =>
      have := hl q List.mem_cons_self
      rw [Nat.eq_of_beq_eq_true h3] at this
      exact this
    | false =>
      refine rf_hg_lt (pc := pc) (h := h) t (fun q hq => hl q (List.mem_cons_of_mem _ hq)) ?_
      cases h1 : Nat.ble q.1 pc <;> cases h2 : Nat.ble (pc + 1) q.2.1 <;> simpa only [rf_hg, h1, h2, h3] using hg
section RFI
variable {l : Launch} {k pc : Nat} {N : Nat → List (Option rf_V) → List rf_V → rf_S → Nat → Nat → Prop} {lv : List (Option rf_V)} {st as r : List rf_V} {σ : rf_S} {ce sl : Nat} {Q : rf_O → rf_S → Prop} {a : Nat} {ig : Instr}
theorem rf_call (hF : rf_CF k a) (hN : ∀ pc lv st σ ce sl, N pc lv st σ ce sl → rf_W l k pc lv st σ ce sl Q) (hst : st = as.reverse ++ r) (hlen : as.length = rf_na a) (hw8 : rf_wt r ≤ 8) (hwa : rf_wt as = as.length) (hrm : ce + rf_mc a ≤ rf_mc k ∧ sl + rf_ms a ≤ rf_ms k) (hd : decode (rf_cd k) pc = .ok (ig, 3))
    (hgo : ∀ (N0 : Nat) (H0 : Heap) (D : va_G) (cA : Nat → ClassId) (bk : Nat × Nat → Nat) (p : Program) (e : Env) (s : State) (m : MethodId) (args : Array Value) (below : List Frame) (meth : Method) (c : Code) (H : Heap) (locs : List Loc) (ls : Array Slot), rf_Cx l k N0 H0 p s m args meth c → rf_R N0 H0 D cA bk σ s H → (∀ v ∈ st, rf_ok σ v) →
      rf_Go p l e (rf_rm k) s m args below meth c H locs ce sl (F0 m pc ls (st.map (rf_lo bk))) (r.map (rf_lo bk)) (rf_nm a) (as.map (rf_lo bk)).toArray)
    (hC : rf_C l a as σ (rf_aft k pc 3 N Q lv r (ce + rf_mc a) (sl + rf_ms a))) : rf_W l k pc lv st σ ce sl Q := by
  obtain ⟨hpl, hcw, ⟨hfr, hlw⟩, hna, hok, hhl, hh3, hyes, hno⟩ := hF
  intro N0 H0 D cA bk p e s m args below meth c H locs ls h1 h2 h3 h4 h5 h6 h7 h8 h9
  have hasok : ∀ v ∈ as, rf_ok σ v := fun v hv => h5 v (by rw [hst]; exact List.mem_append_left _ (List.mem_reverse.mpr hv))
  have hrok : ∀ v ∈ r, rf_ok σ v := fun v hv => h5 v (by rw [hst]; exact List.mem_append_right _ hv)
  have hsz : ls.size = c.maxLocals := h6.1.trans h1.2.2.1.symm
  refine rf_into (R' := rf_rm a) (Z := rf_Z N0 H0 D cA bk σ s (rf_aft k pc 3 N Q lv r (ce + rf_mc a) (sl + rf_ms a))) (N0 := N0) (mc := rf_mc a) (ms := rf_ms a) (hgo N0 H0 D cA bk p e s m args below meth c H locs ls h1 h2 h5) h1.2.1 hpl (fun U hW => hcw args _ s U h1.2.2.2.2.1 hW) rfl hsz hd
    (by show 2 * 0 + _ ≤ 8; rw [rf_wt_lo]; omega) hfr hlw hrm.1 hrm.2 rfl rfl (fun s' mk methk ck hs' hW' hn' hmk hck hml htb hrt hlk => ?_) (fun t v L hZ hL hW => ?_) (fun t q L hZ hL hW => ?_)
  · obtain ⟨ls', hent, hls'⟩ := rf_entry (k := a) (bk := bk) (mk := mk) (rf_wt1 as hwa) (by rw [hlen]; exact hna)
    rw [hent]
    have hR' : rf_R N0 H0 D cA bk σ s' s'.heap := by rw [hs']; exact h2.moved hW'.alike
    have hlow : va_S (fun q => N0 ≤ q) H0 s'.heap [] := by
      rw [hs']
      obtain ⟨_, -, -, -, -, g5, -⟩ := h2
      exact g5
    obtain ⟨s0, q1, q2, q3⟩ := h1.2.2.2.2.2.2.2.2.2.2.2
    have hcx : rf_Cx l a N0 H0 p s' mk (as.map (rf_lo bk)).toArray methk ck :=
      ⟨h1.1, hck, hml, findClass_of_methodNamed hn', fun w hw hg => rf_warm hg hW' (h1.2.2.2.2.1 w hw hg), hrt, hlk, htb, fun hi => by rw [(name_of_methodNamed hn' hmk).1]; exact hi, h1.2.2.2.2.2.2.2.2.2.1, hlow, s0, q1.trans hW'.alike, q2, q3⟩
    have hw := hC N0 H0 D cA bk p e s' mk (as.map (rf_lo bk)).toArray (.java { F0 m pc ls (st.map (rf_lo bk)) with stack := r.map (rf_lo bk) } :: below) methk ck ls' hcx hR' hasok (by rw [hlen]; exact hna) hls'
    rw [hs'] at hw
    exact rf_post hw fun t ht => rf_B.mono (fun o u hz => hz.moved hW'.alike.symm) ht
  · obtain ⟨u, σ', bk', c1, c2, c3, c4, c5⟩ := hZ
    have hloc : ∀ z ∈ locs ++ L, N0 ≤ z.base := fun z hz => (List.mem_append.mp hz).elim (h3 z) (hL z)
    have go : ∀ st' : List rf_V, (∀ v ∈ st', rf_ok σ' v) → N (pc + 3) lv st' σ' (ce + rf_mc a) (sl + rf_ms a) → W p l e (rf_rm k) s m args below meth c t.heap (locs ++ L) (ce + rf_mc a) (sl + rf_ms a) (rf_B s below N0 (rf_mc k) (rf_ms k) (rf_Z N0 H0 D cA bk σ s Q)) (F0 m (pc + 3) ls (st'.map (rf_lo bk'))) := fun st' hs' hn =>
      rf_post (hN _ _ _ _ _ _ hn N0 H0 D cA bk' p e s m args below meth c t.heap (locs ++ L) ls h1 c4 hloc (fun v hv => c5.ok (h4 v hv)) hs' (by rw [c5.ll lv 0 h4]; exact h6) h7 hrm.1 hrm.2) fun t ht => rf_B.mono (fun o u hz => rf_Z.grow c5 hz) ht
    rcases u with (_ | w) | x
    · have hv : v = none := Outcome.returned.inj c2
      subst hv
      have := go r (fun v hv => c5.ok (hrok v hv)) c1
      rw [c5.st hrok] at this
      exact this
    · have hv : v = some (rf_lo bk' w) := Outcome.returned.inj c2
      subst hv
      have := go (w :: r) (rf_okc c3 fun v hv => c5.ok (hrok v hv)) c1
      rw [List.map_cons, c5.st hrok] at this
      exact this
    · obtain ⟨_, _, e1, -⟩ := c2
      cases e1
  · obtain ⟨u, σ', bk', c1, c2, c3, c4, c5⟩ := hZ
    rcases u with v | x
    · cases c2
    · obtain ⟨q', ce9, e1, e2, e3, e4⟩ := c2
      cases e1
      have hloc : ∀ z ∈ locs ++ L, N0 ≤ z.base := fun z hz => (List.mem_append.mp hz).elim (h3 z) (hL z)
      have htab := h1.2.2.2.2.2.2.2.1
      cases hhx : rf_hx k with
      | nil =>
        simp only [rf_aft, hhx] at c1
        have hemp : c.exceptionTable.toList = [] := by
          rw [hok.1 hhx] at htab
          exact List.map_eq_nil_iff.mp htab
        exact rf_out (fun x hx => by rw [hemp] at hx; cases hx) h1.2.2.2.2.2.2.1 hloc hrm.1 hrm.2 fun t' ht' hW' => ⟨.inr x, σ', bk', c1, ⟨q, ce9, rfl, by rw [ht']; exact e2, e3, e4⟩, trivial, by rw [ht']; exact c4, c5⟩
      | cons q0 tl =>
        simp only [rf_aft, hhx] at c1
        cases hg : rf_hg pc x (q0 :: tl) with
        | none => simp only [hg] at c1
        | some hpc =>
          simp only [hg] at c1
          rw [← hhx] at hg
          have hx3 : x < 3 := rf_hg_lt _ hh3 hg
          have htab2 : c.exceptionTable.toList = tableOf (rf_hh k) := by
            rw [← htab, tableOf, List.map_map]
            exact (List.map_id'' (fun x => by cases x; rfl) _).symm
          refine rf_catch (h := hpc) e2 e3 (by obtain ⟨k9, h9, -⟩ := Vm.findClass_spec e4; exact ⟨k9, h9⟩) (fun pl hpl => ?_) ?_
          · rw [htab2]
            exact rf_fnd hpl h1.2.2.2.1 (fun w hw => h1.2.2.2.2.1 w hw.1 hw.2) hx3 e4 (h1.2.2.2.2.1 _ (hyes x hx3).1 (hyes x hx3).2) (fun y hy hne => h1.2.2.2.2.1 _ (hno x y hx3 hy hne).1 (hno x y hx3 hy hne).2) (rf_hh k) (rf_hx k) hhl hok.2 hg
          · have hw := hN _ _ _ _ _ _ (c1 q) N0 H0 D cA bk' p e s m args below meth c t.heap (locs ++ L) ls h1 c4 hloc (fun v hv => c5.ok (h4 v hv)) (fun v hv => by rw [List.mem_singleton] at hv; subst hv; exact Or.inl rfl) (by rw [c5.ll lv 0 h4]; exact h6) h7 hrm.1 hrm.2
            exact rf_post hw fun t ht => rf_B.mono (fun o u hz => rf_Z.grow c5 hz) ht
end RFI
