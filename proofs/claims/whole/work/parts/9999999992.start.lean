/-! the start: what the Statement gives of it -/
section ST
variable {s : State} {args : Array Value}
theorem st_kn {a n : Nat} {C : String} {T : u_T} {N : Nat} {Y : Nat → FieldType} (hw : ∀ w, w ∈ rf_tb0 → rf_gw w = true → w.before args s = true) (hC : rf_KC a C T N Y) (hi : rf_wok (.instantiable C n)) : ∃ (cC : ClassId) (iS : Nat → Nat), u_Kn s C T N cC iS :=
  u_known (ws := u_ws C T N) (fun w h => hw w (hC.2.1 w h).1 (hC.2.1 w h).2) (fun _ h => h) (hw _ hi.1 hi.2)
theorem st_ap {ty : FieldType} (hw : ∀ w, w ∈ rf_tb0 → rf_gw w = true → w.before args s = true) (hi : rf_wok (.arrayClass ty)) (hy : ∀ cA, s.vm.findClass ("[" ++ ty.toString) = some cA → va_RA s cA ty) : ∃ cA : ClassId, ArrOfT s cA ty ∧ va_RA s cA ty := by
  obtain ⟨cA, kA, comp, h1, h2, h3⟩ := Cond.arrayClass_spec (hw _ hi.1 hi.2)
  exact ⟨cA, fun n z => ⟨fun k h => (by cases h), kA, h2, comp, h3⟩, hy cA h1⟩
theorem st_ao {C : String} (hw : ∀ w, w ∈ rf_tb0 → rf_gw w = true → w.before args s = true) (hi : rf_wok (.arrayOver (.object C))) : ∃ cA : ClassId, ArrOfT s cA (.object C) ∧ va_RA s cA (.object C) := by
  obtain ⟨comp, cA, kA, h1, -, h2, h3, h4⟩ := Cond.arrayOver_spec (hw _ hi.1 hi.2)
  exact ⟨cA, fun n z => ⟨fun k h => (by cases h), kA, h2, comp, h3⟩, kA, comp, h2, h3, h1, h4⟩
theorem st_K (hw : ∀ w, w ∈ rf_tb0 → rf_gw w = true → w.before args s = true) : ∃ (D : va_G) (cA : Nat → ClassId), va_K D rf_cl (rf_tys cA) s := by
  obtain ⟨c0, t0, k0⟩ := st_kn hw rf_kc0 rf_ins0
  obtain ⟨c1, t1, k1⟩ := st_kn hw rf_kc1 rf_ins1
  obtain ⟨c2, t2, k2⟩ := st_kn hw rf_kc2 rf_ins2
  obtain ⟨c3, t3, k3⟩ := st_kn hw rf_kc3 rf_ins3
  obtain ⟨c4, t4, k4⟩ := st_kn hw rf_kc4 rf_ins4
  obtain ⟨c5, t5, k5⟩ := st_kn hw rf_kc5 rf_ins5
  obtain ⟨c6, t6, k6⟩ := st_kn hw rf_kc6 rf_ins6
  obtain ⟨c7, t7, k7⟩ := st_kn hw rf_kc7 rf_ins7
  obtain ⟨c8, t8, k8⟩ := st_kn hw rf_kc8 rf_ins8
  obtain ⟨a0, y0⟩ := st_ap hw rf_ac_int fun _ h => h
  obtain ⟨a1, y1⟩ := st_ap hw rf_ac_boolean fun _ h => h
  obtain ⟨a2, y2⟩ := st_ap hw rf_ac_long fun _ h => h
  obtain ⟨a3, y3⟩ := st_ao hw rf_ov2
  obtain ⟨a4, y4⟩ := st_ao hw rf_ov6
  obtain ⟨a5, y5⟩ := st_ao hw rf_ov1
  obtain ⟨a6, y6⟩ := st_ao hw rf_ov5
  refine ⟨(fun k => match k with | 0 => c0 | 1 => c1 | 2 => c2 | 3 => c3 | 4 => c4 | 5 => c5 | 6 => c6 | 7 => c7 | _ => c8, fun k => match k with | 0 => t0 | 1 => t1 | 2 => t2 | 3 => t3 | 4 => t4 | 5 => t5 | 6 => t6 | 7 => t7 | _ => t8), fun k => match k with | 100 => a0 | 101 => a1 | 102 => a2 | 103 => a3 | 104 => a4 | 105 => a5 | _ => a6, fun c q hq => ?_, fun k q hq => ?_⟩
  · match c, hq with
    | 0, hq => cases hq; exact k0
    | 1, hq => cases hq; exact k1
    | 2, hq => cases hq; exact k2
    | 3, hq => cases hq; exact k3
    | 4, hq => cases hq; exact k4
    | 5, hq => cases hq; exact k5
    | 6, hq => cases hq; exact k6
    | 7, hq => cases hq; exact k7
    | 8, hq => cases hq; exact k8
    | c + 9, hq => exact absurd (List.getElem?_eq_some_iff.mp hq).1 (by show ¬ c + 9 < 9; omega)
  · match k, hq with
    | 0, hq => cases hq; exact y0
    | 1, hq => cases hq; exact y1
    | 2, hq => cases hq; exact y2
    | 3, hq => cases hq; exact y3
    | 4, hq => cases hq; exact y4
    | 5, hq => cases hq; exact y5
    | 6, hq => cases hq; exact y6
    | c + 7, hq => exact absurd (List.getElem?_eq_some_iff.mp hq).1 (by show ¬ c + 7 < 7; omega)
/-- behind the old cells -/
theorem st_new {s t : State} {L : List Loc} {k n : Nat} (h : s.sameButNew t L k n) (hL : ∀ z ∈ L, s.heap.size ≤ z.base) : s.sameButNew t [] k n := by
  obtain ⟨h1, h2, h3, h4, h5, h6⟩ := h
  refine ⟨h1, h2, h3, h4, h5, fun a c hc => ?_⟩
  obtain ⟨c', g1, g2, g3, g4⟩ := h6 a c hc
  have lt : a < s.heap.size := (Array.getElem?_eq_some_iff.mp hc).1
  exact ⟨c', g1, g2, g3, fun i _ => g4 i fun q => absurd (hL _ q) (Nat.not_le_of_lt lt)⟩
end ST
theorem st_nots : ∀ w ∈ rf_nots, w ∈ flatC (Jvm.Cond.and given_1 narrow_1) := by decide +kernel
def st_S (L : Nat) (xs : Nat → Int32) : rf_S := (fun b => on b 200, fun _ _ => L, fun _ _ => xs, fun _ _ _ => none, fun _ _ _ => 0)
theorem st_B {L : Nat} {xs : Nat → Int32} : Bd L (st_S L xs) cKs KK KK := by
  refine ⟨fun _ => rfl, fun b i hi => ?_, fun _ _ _ => ⟨rfl, rfl⟩⟩
  have hb : b = 200 := by
    by_cases q : b = 200
    · exact q
    · exfalso
      unfold cKs on at hi
      rw [if_neg q] at hi
      exact absurd hi (Nat.not_lt_zero i)
  subst hb
  refine ⟨rfl, fun q => absurd rfl q, fun j => ?_⟩
  show none = if j < 1000 then none else none
  split <;> rfl
theorem st_R {L b : Nat} {xs : Nat → Int32} {s : State} {D : va_G} {cA : Nat → ClassId} (hK : va_K D rf_cl (rf_tys cA) s) (hX : va_X b L xs s s.heap) (hb : b < s.heap.size) : rf_R s.heap.size s.heap D cA (fun _ => b) (st_S L xs) s s.heap := by
  refine ⟨[], List.nodup_nil, fun r => ⟨fun h => absurd h List.not_mem_nil, fun h => ?_⟩, fun k q h => absurd h (by simp [rf_wl]), ⟨fun i j p q h => absurd h (by simp [rf_wl]), fun k q h => absurd h (by simp [rf_wl])⟩, ⟨Nat.le_refl _, fun _ _ _ => rfl, fun _ h => absurd h List.not_mem_nil⟩, fun r h => absurd h List.not_mem_nil, fun _ => ⟨hX, hb⟩, hK, rfl⟩
  obtain ⟨h1, h2⟩ := h
  have e : (st_S L xs).1 r.1 = 0 := by
    show (if r.1 = 200 then 1 else 0) = 0
    exact if_neg h1
  rw [e] at h2
  exact absurd h2 (Nat.not_lt_zero _)
