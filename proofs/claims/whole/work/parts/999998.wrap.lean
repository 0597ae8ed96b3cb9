/-! the law's wrappers -/
section NG
variable {l : Launch} {Q : rf_O → rf_S → Prop} {σ : rf_S}
/-- what a wrapper makes of an outcome -/
def wqO (m : Nat → Option Int32) (N : rf_S → Prop) (V : Int32 → rf_S → Prop) (Q : rf_O → rf_S → Prop) : rf_O → rf_S → Prop
  | .inl none, σ => N σ
  | .inl (some (.inl x)), σ => V x σ
  | .inl (some (.inr _)), _ => False
  | .inr x, σ => match m x with
    | some y => Q (.inl (some (.inl y))) σ
    | none => False
def w012 : Nat → Option Int32
  | 0 => some 1
  | 1 => some 2
  | 2 => some 3
  | _ => none
def w02 : Nat → Option Int32
  | 0 => some 1
  | 2 => some 2
  | _ => none
def w0 : Nat → Option Int32
  | 0 => some 1
  | _ => none
def w1 : Nat → Option Int32
  | 1 => some 1
  | _ => none
def w01 : Nat → Option Int32
  | 0 => some 1
  | 1 => some 2
  | _ => none
def nQ (Q : rf_O → rf_S → Prop) (σ : rf_S) : Prop := Q (.inl (some (.inl 0))) σ
def vQ (Q : rf_O → rf_S → Prop) (x : Int32) (σ : rf_S) : Prop := (0 ≤ (0 : Int32) ∧ (0 : Int32).toNatClampNeg < σ.2.1 102 0) ∧ Q (.inl (some (.inl 0))) (rf_putL σ 102 0 (0 : Int32).toNatClampNeg x.toInt64)
def bQ (Q : rf_O → rf_S → Prop) (x : Int32) (σ : rf_S) : Prop := (x = 0 → (0 ≤ (0 : Int32) ∧ (0 : Int32).toNatClampNeg < σ.2.1 102 0) ∧ Q (.inl (some (.inl 0))) (rf_putL σ 102 0 (0 : Int32).toNatClampNeg (Int64.ofNat 0))) ∧ (¬ x = 0 → (0 ≤ (0 : Int32) ∧ (0 : Int32).toNatClampNeg < σ.2.1 102 0) ∧ Q (.inl (some (.inl 0))) (rf_putL σ 102 0 (0 : Int32).toNatClampNeg (Int64.ofNat 1)))
def dk : rf_V := .inr (.inr (some (7, 0)))
def ol : rf_V := .inr (.inr (some (102, 0)))
theorem e_unhang {p : Int32} (h : rf_C l 38 [dk, .inl p] σ (wqO w02 (nQ Q) (fun _ _ => False) Q)) : rf_C l 39 [dk, .inl p] σ Q := by
  apply rf_C.ofW
  refine rf_goW rf_mo_39 rf_T_39 30 [] (And.intro ⟨by decide, by decide⟩ (h.mono fun u σ' q => ?_))
  match u, q with
  | .inl none, q => exact q
  | .inl (some (.inl _)), q => exact False.elim q
  | .inl (some (.inr _)), q => exact False.elim q
  | .inr 0, q => exact fun _ => q
  | .inr 1, q => exact False.elim q
  | .inr 2, q => exact fun _ => q
  | .inr (n + 3), q => exact False.elim q
theorem e_move {c p g t : Int32} (h : rf_C l 58 [dk, .inl c, .inl p, .inl g, .inl t] σ (wqO w012 (fun _ => False) (vQ Q) Q)) : rf_C l 59 [dk, .inl c, .inl p, .inl g, .inl t, ol] σ Q := by
  apply rf_C.ofW
  refine rf_goW rf_mo_59 rf_T_59 30 [] (And.intro ⟨by decide, by decide⟩ (h.mono fun u σ' q => ?_))
  match u, q with
  | .inl none, q => exact False.elim q
  | .inl (some (.inl _)), q => exact q
  | .inl (some (.inr _)), q => exact False.elim q
  | .inr 0, q => exact fun _ => q
  | .inr 1, q => exact fun _ => q
  | .inr 2, q => exact fun _ => q
  | .inr (n + 3), q => exact False.elim q
theorem e_clearReason {p : Int32} (h : rf_C l 145 [dk, .inl p] σ (wqO w0 (fun _ => False) (bQ Q) Q)) : rf_C l 146 [dk, .inl p, ol] σ Q := by
  apply rf_C.ofW
  refine rf_goW rf_mo_146 rf_T_146 30 [] (And.intro ⟨by decide, by decide⟩ (h.mono fun u σ' q => ?_))
  match u, q with
  | .inl none, q => exact False.elim q
  | .inl (some (.inl _)), q => exact And.intro q.1 q.2
  | .inl (some (.inr _)), q => exact False.elim q
  | .inr 0, q => exact fun _ => q
  | .inr 1, q => exact False.elim q
  | .inr 2, q => exact False.elim q
  | .inr (n + 3), q => exact False.elim q
theorem e_hang {p x w a b : Int32} (h : rf_C l 25 [dk, .inl p, .inl x, .inl w, .inl a, .inl b] σ (wqO w012 (nQ Q) (fun _ _ => False) Q)) : rf_C l 26 [dk, .inl p, .inl x, .inl w, .inl a, .inl b] σ Q := by
  apply rf_C.ofW
  refine rf_goW rf_mo_26 rf_T_26 30 [] (And.intro ⟨by decide, by decide⟩ (h.mono fun u σ' q => ?_))
  match u, q with
  | .inl none, q => exact q
  | .inl (some (.inl _)), q => exact False.elim q
  | .inl (some (.inr _)), q => exact False.elim q
  | .inr 0, q => exact fun _ => q
  | .inr 1, q => exact fun _ => q
  | .inr 2, q => exact fun _ => q
  | .inr (n + 3), q => exact False.elim q
theorem e_box {p w d g : Int32} (h : rf_C l 45 [dk, .inl p, .inl w, .inl d, .inl g] σ (wqO w012 (nQ Q) (fun _ _ => False) Q)) : rf_C l 46 [dk, .inl p, .inl w, .inl d, .inl g] σ Q := by
  apply rf_C.ofW
  refine rf_goW rf_mo_46 rf_T_46 30 [] (And.intro ⟨by decide, by decide⟩ (h.mono fun u σ' q => ?_))
  match u, q with
  | .inl none, q => exact q
  | .inl (some (.inl _)), q => exact False.elim q
  | .inl (some (.inr _)), q => exact False.elim q
  | .inr 0, q => exact fun _ => q
  | .inr 1, q => exact fun _ => q
  | .inr 2, q => exact fun _ => q
  | .inr (n + 3), q => exact False.elim q
theorem e_station {c s : Int32} (h : rf_C l 53 [dk, .inl c, .inl s] σ (wqO w02 (nQ Q) (fun _ _ => False) Q)) : rf_C l 54 [dk, .inl c, .inl s] σ Q := by
  apply rf_C.ofW
  refine rf_goW rf_mo_54 rf_T_54 30 [] (And.intro ⟨by decide, by decide⟩ (h.mono fun u σ' q => ?_))
  match u, q with
  | .inl none, q => exact q
  | .inl (some (.inl _)), q => exact False.elim q
  | .inl (some (.inr _)), q => exact False.elim q
  | .inr 0, q => exact fun _ => q
  | .inr 1, q => exact False.elim q
  | .inr 2, q => exact fun _ => q
  | .inr (n + 3), q => exact False.elim q
theorem e_after {c m o a : Int32} (h : rf_C l 61 [dk, .inl c, .inl m, .inl o, .inl a] σ (wqO w012 (nQ Q) (fun _ _ => False) Q)) : rf_C l 62 [dk, .inl c, .inl m, .inl o, .inl a] σ Q := by
  apply rf_C.ofW
  refine rf_goW rf_mo_62 rf_T_62 30 [] (And.intro ⟨by decide, by decide⟩ (h.mono fun u σ' q => ?_))
  match u, q with
  | .inl none, q => exact q
  | .inl (some (.inl _)), q => exact False.elim q
  | .inl (some (.inr _)), q => exact False.elim q
  | .inr 0, q => exact fun _ => q
  | .inr 1, q => exact fun _ => q
  | .inr 2, q => exact fun _ => q
  | .inr (n + 3), q => exact False.elim q
theorem e_clear {c : Int32} (h : rf_C l 64 [dk, .inl c] σ (wqO w02 (nQ Q) (fun _ _ => False) Q)) : rf_C l 65 [dk, .inl c] σ Q := by
  apply rf_C.ofW
  refine rf_goW rf_mo_65 rf_T_65 30 [] (And.intro ⟨by decide, by decide⟩ (h.mono fun u σ' q => ?_))
  match u, q with
  | .inl none, q => exact q
  | .inl (some (.inl _)), q => exact False.elim q
  | .inl (some (.inr _)), q => exact False.elim q
  | .inr 0, q => exact fun _ => q
  | .inr 1, q => exact False.elim q
  | .inr 2, q => exact fun _ => q
  | .inr (n + 3), q => exact False.elim q
theorem e_arm {c : Int32} (h : rf_C l 82 [dk, .inl c] σ (wqO w02 (fun _ => False) (vQ Q) Q)) : rf_C l 83 [dk, .inl c, ol] σ Q := by
  apply rf_C.ofW
  refine rf_goW rf_mo_83 rf_T_83 30 [] (And.intro ⟨by decide, by decide⟩ (h.mono fun u σ' q => ?_))
  match u, q with
  | .inl none, q => exact False.elim q
  | .inl (some (.inl _)), q => exact q
  | .inl (some (.inr _)), q => exact False.elim q
  | .inr 0, q => exact fun _ => q
  | .inr 1, q => exact False.elim q
  | .inr 2, q => exact fun _ => q
  | .inr (n + 3), q => exact False.elim q
theorem e_handle {s x : Int32} (h : rf_C l 91 [dk, .inl s, .inl x] σ (wqO w0 (nQ Q) (fun _ _ => False) Q)) : rf_C l 92 [dk, .inl s, .inl x] σ Q := by
  apply rf_C.ofW
  refine rf_goW rf_mo_92 rf_T_92 30 [] (And.intro ⟨by decide, by decide⟩ (h.mono fun u σ' q => ?_))
  match u, q with
  | .inl none, q => exact q
  | .inl (some (.inl _)), q => exact False.elim q
  | .inl (some (.inr _)), q => exact False.elim q
  | .inr 0, q => exact fun _ => q
  | .inr 1, q => exact False.elim q
  | .inr 2, q => exact False.elim q
  | .inr (n + 3), q => exact False.elim q
theorem e_go {s : Int32} (h : rf_C l 94 [dk, .inl s] σ (wqO w02 (fun _ => False) (vQ Q) Q)) : rf_C l 95 [dk, .inl s, ol] σ Q := by
  apply rf_C.ofW
  refine rf_goW rf_mo_95 rf_T_95 30 [] (And.intro ⟨by decide, by decide⟩ (h.mono fun u σ' q => ?_))
  match u, q with
  | .inl none, q => exact False.elim q
  | .inl (some (.inl _)), q => exact q
  | .inl (some (.inr _)), q => exact False.elim q
  | .inr 0, q => exact fun _ => q
  | .inr 1, q => exact False.elim q
  | .inr 2, q => exact fun _ => q
  | .inr (n + 3), q => exact False.elim q
theorem e_halt {s : Int32} (h : rf_C l 99 [dk, .inl s] σ (wqO w0 (fun _ => False) (vQ Q) Q)) : rf_C l 100 [dk, .inl s, ol] σ Q := by
  apply rf_C.ofW
  refine rf_goW rf_mo_100 rf_T_100 30 [] (And.intro ⟨by decide, by decide⟩ (h.mono fun u σ' q => ?_))
  match u, q with
  | .inl none, q => exact False.elim q
  | .inl (some (.inl _)), q => exact q
  | .inl (some (.inr _)), q => exact False.elim q
  | .inr 0, q => exact fun _ => q
  | .inr 1, q => exact False.elim q
  | .inr 2, q => exact False.elim q
  | .inr (n + 3), q => exact False.elim q
theorem e_tick {n : Int32} (h : rf_C l 127 [dk, .inl n] σ (wqO w1 (fun _ => False) (vQ Q) Q)) : rf_C l 128 [dk, .inl n, ol] σ Q := by
  apply rf_C.ofW
  refine rf_goW rf_mo_128 rf_T_128 30 [] (And.intro ⟨by decide, by decide⟩ (h.mono fun u σ' q => ?_))
  match u, q with
  | .inl none, q => exact False.elim q
  | .inl (some (.inl _)), q => exact q
  | .inl (some (.inr _)), q => exact False.elim q
  | .inr 0, q => exact False.elim q
  | .inr 1, q => exact fun _ => q
  | .inr 2, q => exact False.elim q
  | .inr (n + 3), q => exact False.elim q
theorem e_cell {c v : Int32} (h : rf_C l 136 [dk, .inl c, .inl v] σ (wqO w01 (nQ Q) (fun _ _ => False) Q)) : rf_C l 137 [dk, .inl c, .inl v] σ Q := by
  apply rf_C.ofW
  refine rf_goW rf_mo_137 rf_T_137 30 [] (And.intro ⟨by decide, by decide⟩ (h.mono fun u σ' q => ?_))
  match u, q with
  | .inl none, q => exact q
  | .inl (some (.inl _)), q => exact False.elim q
  | .inl (some (.inr _)), q => exact False.elim q
  | .inr 0, q => exact fun _ => q
  | .inr 1, q => exact fun _ => q
  | .inr 2, q => exact False.elim q
  | .inr (n + 3), q => exact False.elim q
theorem e_lose {c v : Int32} (h : rf_C l 139 [dk, .inl c, .inl v] σ (wqO w01 (nQ Q) (fun _ _ => False) Q)) : rf_C l 140 [dk, .inl c, .inl v] σ Q := by
  apply rf_C.ofW
  refine rf_goW rf_mo_140 rf_T_140 30 [] (And.intro ⟨by decide, by decide⟩ (h.mono fun u σ' q => ?_))
  match u, q with
  | .inl none, q => exact q
  | .inl (some (.inl _)), q => exact False.elim q
  | .inl (some (.inr _)), q => exact False.elim q
  | .inr 0, q => exact fun _ => q
  | .inr 1, q => exact fun _ => q
  | .inr 2, q => exact False.elim q
  | .inr (n + 3), q => exact False.elim q
theorem e_stick {c x : Int32} (h : rf_C l 142 [dk, .inl c, .inl x] σ (wqO w0 (nQ Q) (fun _ _ => False) Q)) : rf_C l 143 [dk, .inl c, .inl x] σ Q := by
  apply rf_C.ofW
  refine rf_goW rf_mo_143 rf_T_143 30 [] (And.intro ⟨by decide, by decide⟩ (h.mono fun u σ' q => ?_))
  match u, q with
  | .inl none, q => exact q
  | .inl (some (.inl _)), q => exact False.elim q
  | .inl (some (.inr _)), q => exact False.elim q
  | .inr 0, q => exact fun _ => q
  | .inr 1, q => exact False.elim q
  | .inr 2, q => exact False.elim q
  | .inr (n + 3), q => exact False.elim q
end NG
