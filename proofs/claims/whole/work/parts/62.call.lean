/-! switches; calls -/
def rf_swv (d : Nat) (x : Int32) : List (Int32 × Nat) → Nat
  | [] => d
  | q :: t => if x = q.1 then q.2 else rf_swv d x t
theorem rf_sws_pick {P : Nat → Prop} {d : Nat} {x : Int32} : ∀ l : List (Int32 × Nat), rf_sws P d x l → P (rf_swv d x l)
  | [], h => h
  | q :: t, h => by
    unfold rf_swv
    by_cases hx : x = q.1
    · rw [if_pos hx]; exact h.1 hx
    · rw [if_neg hx]; exact rf_sws_pick t (h.2 hx)
/-- values j0, j0 + 1 .. in turn: the place of the value -/
theorem rf_swv_in {d : Nat} {x : Int32} : ∀ (l : List (Int32 × Nat)) (j0 : Nat), (∀ j : Nat, j < l.length → ∃ t, l[j]? = some (Int32.ofNat (j0 + j), t)) → j0 + l.length < 2 ^ 31 →
    (∀ (j t : Nat), l[j]? = some (Int32.ofNat (j0 + j), t) → x.toInt = ((j0 + j : Nat) : Int) → rf_swv d x l = t) ∧ ((∀ j : Nat, j < l.length → x.toInt ≠ ((j0 + j : Nat) : Int)) → rf_swv d x l = d)
  | [], j0, _, _ => ⟨fun j t h => by simp at h, fun _ => rfl⟩
  | q :: l, j0, hl, hb => by
    obtain ⟨t0, h0⟩ := hl 0 (by simp)
    simp only [List.getElem?_cons_zero, Nat.add_zero, Option.some.injEq] at h0
    subst h0
    have hof : ∀ n : Nat, n < 2 ^ 31 → (Int32.ofNat n).toInt = (n : Int) := fun n hn => Int32.toInt_ofNat_of_lt hn
    simp only [List.length_cons] at hb
    obtain ⟨i1, i2⟩ := rf_swv_in l (j0 + 1) (fun j hj => by
      obtain ⟨t, ht⟩ := hl (j + 1) (by simpa using hj)
      exact ⟨t, by rw [List.getElem?_cons_succ] at ht; rw [ht]; congr 3; omega⟩) (by omega)
    have hx : x = Int32.ofNat j0 ↔ x.toInt = (j0 : Int) := by rw [← Int32.toInt_inj, hof j0 (by omega)]
    refine ⟨fun j t hj hxj => ?_, fun hno => ?_⟩
    · unfold rf_swv
      cases j with
      | zero =>
        simp at hj
        rw [if_pos (hx.mpr (by simpa using hxj))]
        exact hj
      | succ j =>
        rw [if_neg fun q => by have := hx.mp q; omega]
        exact i1 j t (by rw [List.getElem?_cons_succ] at hj; rw [hj]; congr 3; omega) (by rw [hxj]; congr 1; omega)
    · unfold rf_swv
      rw [if_neg fun q => hno 0 (by simp) (by simpa using hx.mp q)]
      exact i2 fun j hj => by have := hno (j + 1) (by simpa using hj); intro q; apply this; rw [q]; congr 1; omega
/-- the rows of a switch from 0 on are those of the list -/
def rf_swj (pc : Nat) (os : Array Int) (l : List (Int32 × Nat)) (j : Nat) : Bool := match l[j]?, os[j]? with
  | some q, some o => decide (q.1 = Int32.ofNat j ∧ (pc : Int) + o = (q.2 : Int))
  | _, _ => false
def rf_swok (pc a : Nat) (d : Int) (os : Array Int) (l : List (Int32 × Nat)) : Bool :=
  decide (((pc : Int) + d = (a : Int)) ∧ l.length = os.size ∧ os.size < 1000 ∧ ∀ j, j < os.size → rf_swj pc os l j = true)
theorem rf_swj_at {pc : Nat} {os : Array Int} {l : List (Int32 × Nat)} {j : Nat} (h : rf_swj pc os l j = true) (h1 : j < l.length) (h2 : j < os.size) : l[j].1 = Int32.ofNat j ∧ (pc : Int) + os[j] = (l[j].2 : Int) := by
  unfold rf_swj at h
  rw [List.getElem?_eq_getElem h1, Array.getElem?_eq_getElem h2] at h
  exact of_decide_eq_true h
section RFT
variable {l : Launch} {k pc : Nat} {N : Nat → List (Option rf_V) → List rf_V → rf_S → Nat → Nat → Prop} {lv : List (Option rf_V)} {st r : List rf_V} {σ : rf_S} {ce sl : Nat} {Q : rf_O → rf_S → Prop} {x : Int32} {a b len : Nat}
theorem rf_s_switch {d hi : Int} {os : Array Int} (hN : ∀ pc lv st σ ce sl, N pc lv st σ ce sl → rf_W l k pc lv st σ ce sl Q) (hd : decode (rf_cd k) pc = .ok (.tableswitch d 0 hi os, len)) (hok : rf_swok pc a d os (rf_sw k pc) = true) (hhi : hi = (os.size : Int) - 1)
    (h : rf_sws (fun t => N t lv r σ ce sl) a x (rf_sw k pc)) : rf_W l k pc lv (.inl x :: r) σ ce sl Q := by
  obtain ⟨e1, e2, e3, e4⟩ := of_decide_eq_true hok
  have hp := rf_sws_pick (P := fun t => N t lv r σ ce sl) _ h
  have hw := hN _ _ _ _ _ _ hp
  have hrows : ∀ j : Nat, j < (rf_sw k pc).length → ∃ t, (rf_sw k pc)[j]? = some (Int32.ofNat (0 + j), t) := fun j hj => by
    have := rf_swj_at (e4 j (by omega)) hj (by omega)
    exact ⟨((rf_sw k pc)[j]).2, by rw [List.getElem?_eq_getElem hj, Nat.zero_add, ← this.1]⟩
  obtain ⟨i1, i2⟩ := rf_swv_in (d := a) (x := x) (rf_sw k pc) 0 hrows (by omega)
  refine rf_pure (fun p e R s m args below meth c H locs bk ls P hx hb _ w => ?_) (fun _ h => rf_okt h) hw
  by_cases hin : x.toInt < 0 ∨ hi < x.toInt
  · have hv : rf_swv a x (rf_sw k pc) = a := i2 fun j hj => by omega
    rw [hv] at w
    exact lv_tableOut hx hb hd hin e1 w
  · have hj : (x.toInt - 0).toNat < os.size := by omega
    have hj2 : (x.toInt - 0).toNat < (rf_sw k pc).length := by omega
    have h4 := rf_swj_at (e4 _ hj) hj2 hj
    have hv : rf_swv a x (rf_sw k pc) = ((rf_sw k pc)[(x.toInt - 0).toNat]).2 := i1 (x.toInt - 0).toNat _ (by rw [List.getElem?_eq_getElem hj2, Nat.zero_add, ← h4.1]) (by omega)
    rw [hv] at w
    exact lv_tableIn hx hb hd (fun q => hin (Or.inl q)) (fun q => hin (Or.inr q)) (Array.getElem?_eq_getElem hj) h4.2 w
/-- the rows of the exceptions' table, by the numbers of their classes -/
def rf_hok (k : Nat) : Prop := (rf_hx k = [] → rf_hh k = []) ∧ ∀ j : Nat, ∀ q, (rf_hh k)[j]? = some q → q.2.2.2 ≠ 0 ∧ ∃ x, x < 3 ∧ (rf_hx k)[j]? = some (q.1, q.2.1, q.2.2.1, x) ∧ rf_wok (.classLink (rf_nm k).cls q.2.2.2 (rf_xn x))
/-- the search through the rows, by numbers and by classes -/
theorem rf_fnd {s : State} {m : MethodId} {args : Array Value} {own : String} {pc x h : Nat} {ce : ClassId} {pl : Platform} (hpl : pl.magicAccessors = ({} : Platform).magicAccessors) (hown : s.vm.findClass own = some m.cls)
    (hw : ∀ w, rf_wok w → w.before args s = true) (hx3 : x < 3) (hce : s.vm.findClass (rf_xn x) = some ce) (hyes : (Cond.castable (rf_xn x) (rf_xn x)).before args s = true) (hno : ∀ y, y < 3 → y ≠ x → (Cond.not (.castable (rf_xn x) (rf_xn y))).before args s = true) :
    ∀ (hh : List (Nat × Nat × Nat × Nat)) (hx : List (Nat × Nat × Nat × Nat)), (hx.length = hh.length) → (∀ j : Nat, ∀ q, hh[j]? = some q → q.2.2.2 ≠ 0 ∧ ∃ x, x < 3 ∧ hx[j]? = some (q.1, q.2.1, q.2.2.1, x) ∧ rf_wok (.classLink own q.2.2.2 (rf_xn x))) → rf_hg pc x hx = some h → rf_Fnd pl s m.cls pc ce h (tableOf hh)
  | [], [], _, _, hg => by simp [rf_hg] at hg
  | [], _ :: _, hl, _, _ => by simp at hl
  | _ :: _, [], hl, _, _ => by simp at hl
  | q :: hh, q' :: hx, hl, hr, hg => by
    obtain ⟨q0, y, hy3, hq, hlk⟩ := hr 0 q rfl
    simp only [List.getElem?_cons_zero, Option.some.injEq] at hq
    subst hq
    have ih : rf_hg pc x hx = some h → rf_Fnd pl s m.cls pc ce h (tableOf hh) := fun g => rf_fnd hpl hown hw hx3 hce hyes hno hh hx (by simpa using hl) (fun j q hj => hr (j + 1) q hj) g
    obtain ⟨c5, hc5, hcl5⟩ := Cond.classLink_spec hown (hw _ hlk) pl hpl
    have hcov : covers (⟨q.1, q.2.1, q.2.2.1, q.2.2.2⟩ : ExceptionTableEntry) pc = (Nat.ble q.1 pc && Nat.ble (pc + 1) q.2.1) := by
      simp only [covers]
      rw [Bool.eq_iff_iff]
      simp [Nat.ble_eq, Nat.lt_iff_add_one_le]
    show (covers (⟨q.1, q.2.1, q.2.2.1, q.2.2.2⟩ : ExceptionTableEntry) pc = true ∧ _) ∨ _
    by_cases hc : covers (⟨q.1, q.2.1, q.2.2.1, q.2.2.2⟩ : ExceptionTableEntry) pc = true
    · have hc' := hc
      rw [hcov, Bool.and_eq_true] at hc'
      simp only [rf_hg, hc'.1, hc'.2] at hg
      refine Or.inl ⟨hc, q0, c5, hcl5, ?_⟩
      cases hb : Nat.beq y x with
      | true =>
        simp only [hb, Option.some.injEq] at hg
        have hyx := Nat.eq_of_beq_eq_true hb
        subst hyx
        obtain ⟨c1, c2, h1, h2, h3⟩ := Cond.castable_spec hyes
        cases Option.some.inj (h1.symm.trans hce)
        cases Option.some.inj (h2.symm.trans hc5)
        exact Or.inl ⟨h3, hg.symm⟩
      | false =>
        simp only [hb] at hg
        have hyx : y ≠ x := fun e => by rw [e, Nat.beq_refl] at hb; cases hb
        obtain ⟨c1, c2, h1, h2, h3⟩ := va_Nc.of (hno y hy3 hyx)
        cases Option.some.inj (h1.symm.trans hce)
        cases Option.some.inj (h2.symm.trans hc5)
        exact Or.inr ⟨h3, ih hg⟩
    · have hc2 : covers (⟨q.1, q.2.1, q.2.2.1, q.2.2.2⟩ : ExceptionTableEntry) pc = false := by simpa using hc
      refine Or.inr ⟨hc2, ih ?_⟩
      rw [hcov, Bool.and_eq_false_iff] at hc2
      rcases hc2 with hc2 | hc2
      · simpa only [rf_hg, hc2] using hg
      · cases hb1 : Nat.ble q.1 pc <;> simpa only [rf_hg, hc2, hb1] using hg
end RFT
