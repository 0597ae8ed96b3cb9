/-! the law: its calls -/
section LA
variable {l : Launch} {L i ce sl : Nat} {I : Nat → Nat → Nat → Int32} {J : Nat → Nat → Nat → Int64} {Q : rf_O → rf_S → Prop}
theorem sx {j : Nat} (h : i + j < L) (hL : L < 2147483648) : 0 ≤ Int32.ofNat i + Int32.ofNat j ∧ (Int32.ofNat i + Int32.ofNat j).toNatClampNeg < L := by
  rw [nt_add]
  exact nt_ix h (by omega)
def sa (I : Nat → Nat → Nat → Int32) (i j : Nat) : Int32 := I 200 0 (Int32.ofNat i + Int32.ofNat j).toNatClampNeg
/-- what comes behind a call -/
def nxt (l : Launch) (L i ce sl : Nat) (I : Nat → Nat → Nat → Int32) (Q : rf_O → rf_S → Prop) : Prop := ∀ (I' : Nat → Nat → Nat → Int32) (J' : Nat → Nat → Nat → Int64) (ce' sl' : Nat), Rel I' I' → I' 200 = I 200 → ce' ≤ ce + 4 → sl' ≤ sl + 24 → rf_W l 165 1375 [some (.inr (.inr (some (200, 0)))), some (.inr (.inr (some (7, 0)))), some (.inr (.inr (some (8, 0)))), some (.inr (.inr (some (102, 0)))), some (.inl (Int32.ofNat i)), none, none] [] (sS L I' J') ce' sl' Q
theorem lg_s (x : Int64) : lg_cmp x x = 0 := by
  unfold lg_cmp
  simp
theorem w_hang (hR : Rel I I) (hi : i + 5 < L) (hL : L < 2147483648) (hc : ce + 4 ≤ 646127) (hs : sl + 24 ≤ 7157724) (nx : nxt l L i ce sl I Q) : rf_W l 165 152 [some (.inr (.inr (some (200, 0)))), some (.inr (.inr (some (7, 0)))), some (.inr (.inr (some (8, 0)))), some (.inr (.inr (some (102, 0)))), some (.inl (Int32.ofNat i)), none, none] [] (sS L I J) ce sl Q := by
  have x1 := sx (L := L) (i := i) (j := 1) (by omega) hL
  have x2 := sx (L := L) (i := i) (j := 2) (by omega) hL
  have x3 := sx (L := L) (i := i) (j := 3) (by omega) hL
  have x4 := sx (L := L) (i := i) (j := 4) (by omega) hL
  have x5 := sx (L := L) (i := i) (j := 5) (by omega) hL
  have p := p_hang (l := l) (L := L) (I := I) (J := J) (p := sa I i 1) (x := sa I i 2) (w := sa I i 3) (a := sa I i 4) (b := sa I i 5) hR
  refine rf_goW rf_mo_165 rf_T_165 200 [1375] (And.intro x1 (And.intro x2 (And.intro x3 (And.intro x4 (And.intro x5 (And.intro ⟨(show ce + 4 ≤ 646127 by omega), (show sl + 24 ≤ 7157724 by omega)⟩ (p.mono fun u σ' q => ?_)))))))
  obtain ⟨r, K, J', rfl, rfl, k2, kq⟩ := q
  unfold sa at kq
  rw [← k2] at kq
  refine And.intro x1 (And.intro x2 (And.intro x3 (And.intro x4 (And.intro x5 (And.intro ⟨(show ce + 4 + 0 ≤ 646127 by omega), (show sl + 24 + 0 ≤ 7157724 by omega)⟩ (kq _ fun K' r' k' t0 => And.intro ⟨(show ce + 4 + 0 + 0 ≤ 646127 by omega), (show sl + 24 + 0 + 0 ≤ 7157724 by omega)⟩ (d_thrown ?_)))))))
  refine And.intro (fun _ => fgt (nx K' J' _ _ r' (k'.trans k2) (show ce + 4 + 0 + 0 ≤ ce + 4 by omega) (show sl + 24 + 0 + 0 ≤ sl + 24 by omega)) (by repeat (first | exact True.intro | refine And.intro rfl ?_))) (fun w => absurd t0 w)
theorem w_unhang (hR : Rel I I) (hi : i + 5 < L) (hL : L < 2147483648) (hc : ce + 4 ≤ 646127) (hs : sl + 24 ≤ 7157724) (nx : nxt l L i ce sl I Q) : rf_W l 165 236 [some (.inr (.inr (some (200, 0)))), some (.inr (.inr (some (7, 0)))), some (.inr (.inr (some (8, 0)))), some (.inr (.inr (some (102, 0)))), some (.inl (Int32.ofNat i)), none, none] [] (sS L I J) ce sl Q := by
  have x1 := sx (L := L) (i := i) (j := 1) (by omega) hL
  have p := p_unhang (l := l) (L := L) (I := I) (J := J) (p := sa I i 1) hR
  refine rf_goW rf_mo_165 rf_T_165 200 [1375] (And.intro x1 (And.intro ⟨(show ce + 2 ≤ 646127 by omega), (show sl + 12 ≤ 7157724 by omega)⟩ (p.mono fun u σ' q => ?_)))
  obtain ⟨r, K, J', rfl, rfl, k2, kq⟩ := q
  unfold sa at kq
  rw [← k2] at kq
  refine And.intro x1 (And.intro ⟨(show ce + 2 + 0 ≤ 646127 by omega), (show sl + 12 + 0 ≤ 7157724 by omega)⟩ (kq _ fun K' r' k' t0 => And.intro ⟨(show ce + 2 + 0 + 0 ≤ 646127 by omega), (show sl + 12 + 0 + 0 ≤ 7157724 by omega)⟩ (d_thrown ?_)))
  refine And.intro (fun _ => fgt (nx K' J' _ _ r' (k'.trans k2) (show ce + 2 + 0 + 0 ≤ ce + 4 by omega) (show sl + 12 + 0 + 0 ≤ sl + 24 by omega)) (by repeat (first | exact True.intro | refine And.intro rfl ?_))) (fun w => absurd t0 w)
theorem w_box (hR : Rel I I) (hi : i + 5 < L) (hL : L < 2147483648) (hc : ce + 4 ≤ 646127) (hs : sl + 24 ≤ 7157724) (nx : nxt l L i ce sl I Q) : rf_W l 165 272 [some (.inr (.inr (some (200, 0)))), some (.inr (.inr (some (7, 0)))), some (.inr (.inr (some (8, 0)))), some (.inr (.inr (some (102, 0)))), some (.inl (Int32.ofNat i)), none, none] [] (sS L I J) ce sl Q := by
  have x1 := sx (L := L) (i := i) (j := 1) (by omega) hL
  have x2 := sx (L := L) (i := i) (j := 2) (by omega) hL
  have x3 := sx (L := L) (i := i) (j := 3) (by omega) hL
  have x4 := sx (L := L) (i := i) (j := 4) (by omega) hL
  have p := p_box (l := l) (L := L) (I := I) (J := J) (p := sa I i 1) (w := sa I i 2) (d := sa I i 3) (h := sa I i 4) hR
  refine rf_goW rf_mo_165 rf_T_165 200 [1375] (And.intro x1 (And.intro x2 (And.intro x3 (And.intro x4 (And.intro ⟨(show ce + 4 ≤ 646127 by omega), (show sl + 24 ≤ 7157724 by omega)⟩ (p.mono fun u σ' q => ?_))))))
  obtain ⟨r, K, J', rfl, rfl, k2, kq⟩ := q
  unfold sa at kq
  rw [← k2] at kq
  refine And.intro x1 (And.intro x2 (And.intro x3 (And.intro x4 (And.intro ⟨(show ce + 4 + 0 ≤ 646127 by omega), (show sl + 24 + 0 ≤ 7157724 by omega)⟩ (kq _ fun K' r' k' t0 => And.intro ⟨(show ce + 4 + 0 + 0 ≤ 646127 by omega), (show sl + 24 + 0 + 0 ≤ 7157724 by omega)⟩ (d_thrown ?_))))))
  refine And.intro (fun _ => fgt (nx K' J' _ _ r' (k'.trans k2) (show ce + 4 + 0 + 0 ≤ ce + 4 by omega) (show sl + 24 + 0 + 0 ≤ sl + 24 by omega)) (by repeat (first | exact True.intro | refine And.intro rfl ?_))) (fun w => absurd t0 w)
theorem w_station (hR : Rel I I) (hi : i + 5 < L) (hL : L < 2147483648) (hc : ce + 4 ≤ 646127) (hs : sl + 24 ≤ 7157724) (nx : nxt l L i ce sl I Q) : rf_W l 165 344 [some (.inr (.inr (some (200, 0)))), some (.inr (.inr (some (7, 0)))), some (.inr (.inr (some (8, 0)))), some (.inr (.inr (some (102, 0)))), some (.inl (Int32.ofNat i)), none, none] [] (sS L I J) ce sl Q := by
  have x1 := sx (L := L) (i := i) (j := 1) (by omega) hL
  have x2 := sx (L := L) (i := i) (j := 2) (by omega) hL
  have p := p_station (l := l) (L := L) (I := I) (J := J) (c := sa I i 1) (s := sa I i 2) hR
  refine rf_goW rf_mo_165 rf_T_165 200 [1375] (And.intro x1 (And.intro x2 (And.intro ⟨(show ce + 3 ≤ 646127 by omega), (show sl + 18 ≤ 7157724 by omega)⟩ (p.mono fun u σ' q => ?_))))
  obtain ⟨r, K, J', rfl, rfl, k2, kq⟩ := q
  unfold sa at kq
  rw [← k2] at kq
  refine And.intro x1 (And.intro x2 (And.intro ⟨(show ce + 3 + 0 ≤ 646127 by omega), (show sl + 18 + 0 ≤ 7157724 by omega)⟩ (kq _ fun K' r' k' t0 => And.intro ⟨(show ce + 3 + 0 + 0 ≤ 646127 by omega), (show sl + 18 + 0 + 0 ≤ 7157724 by omega)⟩ (d_thrown ?_))))
  refine And.intro (fun _ => fgt (nx K' J' _ _ r' (k'.trans k2) (show ce + 3 + 0 + 0 ≤ ce + 4 by omega) (show sl + 18 + 0 + 0 ≤ sl + 24 by omega)) (by repeat (first | exact True.intro | refine And.intro rfl ?_))) (fun w => absurd t0 w)
theorem w_move (hR : Rel I I) (hi : i + 5 < L) (hL : L < 2147483648) (hc : ce + 4 ≤ 646127) (hs : sl + 24 ≤ 7157724) (nx : nxt l L i ce sl I Q) : rf_W l 165 392 [some (.inr (.inr (some (200, 0)))), some (.inr (.inr (some (7, 0)))), some (.inr (.inr (some (8, 0)))), some (.inr (.inr (some (102, 0)))), some (.inl (Int32.ofNat i)), none, none] [] (sS L I J) ce sl Q := by
  have x1 := sx (L := L) (i := i) (j := 1) (by omega) hL
  have x2 := sx (L := L) (i := i) (j := 2) (by omega) hL
  have x3 := sx (L := L) (i := i) (j := 3) (by omega) hL
  have x4 := sx (L := L) (i := i) (j := 4) (by omega) hL
  have p := p_move (l := l) (L := L) (I := I) (J := J) (c := sa I i 1) (p := sa I i 2) (g := sa I i 3) (t := sa I i 4) hR
  refine rf_goW rf_mo_165 rf_T_165 200 [1375] (And.intro x1 (And.intro x2 (And.intro x3 (And.intro x4 (And.intro ⟨(show ce + 4 ≤ 646127 by omega), (show sl + 24 ≤ 7157724 by omega)⟩ (p.mono fun u σ' q => ?_))))))
  obtain ⟨r, K, J', rfl, rfl, k2, kq⟩ := q
  unfold sa at kq
  rw [← k2] at kq
  refine And.intro x1 (And.intro x2 (And.intro x3 (And.intro x4 (And.intro ⟨(show ce + 4 + 0 ≤ 646127 by omega), (show sl + 24 + 0 ≤ 7157724 by omega)⟩ (kq _ fun K' y r' k' t0 jv => And.intro ⟨(show ce + 4 + 0 + 0 ≤ 646127 by omega), (show sl + 24 + 0 + 0 ≤ 7157724 by omega)⟩ (d_thrown ?_))))))
  refine And.intro (fun _ => And.intro (fun _ => fgt (nx K' J' _ _ r' (k'.trans k2) (show ce + 4 + 0 + 0 ≤ ce + 4 by omega) (show sl + 24 + 0 + 0 ≤ sl + 24 by omega)) (by repeat (first | exact True.intro | refine And.intro rfl ?_))) (fun (z : r = 0) => And.intro z102 (And.intro (fun _ => fgt (nx K' J' _ _ r' (k'.trans k2) (show ce + 4 + 0 + 0 ≤ ce + 4 by omega) (show sl + 24 + 0 + 0 ≤ sl + 24 by omega)) (by repeat (first | exact True.intro | refine And.intro rfl ?_))) (fun w => absurd ?_ w)))) (fun w => absurd t0 w)
  have jz := jv z
  show lg_cmp (J' 102 0 0) y.toInt64 = 0
  rw [jz]
  exact lg_s _
theorem w_after (hR : Rel I I) (hi : i + 5 < L) (hL : L < 2147483648) (hc : ce + 4 ≤ 646127) (hs : sl + 24 ≤ 7157724) (nx : nxt l L i ce sl I Q) : rf_W l 165 484 [some (.inr (.inr (some (200, 0)))), some (.inr (.inr (some (7, 0)))), some (.inr (.inr (some (8, 0)))), some (.inr (.inr (some (102, 0)))), some (.inl (Int32.ofNat i)), none, none] [] (sS L I J) ce sl Q := by
  have x1 := sx (L := L) (i := i) (j := 1) (by omega) hL
  have x2 := sx (L := L) (i := i) (j := 2) (by omega) hL
  have x3 := sx (L := L) (i := i) (j := 3) (by omega) hL
  have x4 := sx (L := L) (i := i) (j := 4) (by omega) hL
  have p := p_after (l := l) (L := L) (I := I) (J := J) (c := sa I i 1) (m := sa I i 2) (o := sa I i 3) (a := sa I i 4) hR
  refine rf_goW rf_mo_165 rf_T_165 200 [1375] (And.intro x1 (And.intro x2 (And.intro x3 (And.intro x4 (And.intro ⟨(show ce + 4 ≤ 646127 by omega), (show sl + 24 ≤ 7157724 by omega)⟩ (p.mono fun u σ' q => ?_))))))
  obtain ⟨r, K, J', rfl, rfl, k2, kq⟩ := q
  unfold sa at kq
  rw [← k2] at kq
  refine And.intro x1 (And.intro x2 (And.intro x3 (And.intro x4 (And.intro ⟨(show ce + 4 + 0 ≤ 646127 by omega), (show sl + 24 + 0 ≤ 7157724 by omega)⟩ (kq _ fun K' r' k' t0 => And.intro ⟨(show ce + 4 + 0 + 0 ≤ 646127 by omega), (show sl + 24 + 0 + 0 ≤ 7157724 by omega)⟩ (d_thrown ?_))))))
  refine And.intro (fun _ => fgt (nx K' J' _ _ r' (k'.trans k2) (show ce + 4 + 0 + 0 ≤ ce + 4 by omega) (show sl + 24 + 0 + 0 ≤ sl + 24 by omega)) (by repeat (first | exact True.intro | refine And.intro rfl ?_))) (fun w => absurd t0 w)
theorem w_clear (hR : Rel I I) (hi : i + 5 < L) (hL : L < 2147483648) (hc : ce + 4 ≤ 646127) (hs : sl + 24 ≤ 7157724) (nx : nxt l L i ce sl I Q) : rf_W l 165 556 [some (.inr (.inr (some (200, 0)))), some (.inr (.inr (some (7, 0)))), some (.inr (.inr (some (8, 0)))), some (.inr (.inr (some (102, 0)))), some (.inl (Int32.ofNat i)), none, none] [] (sS L I J) ce sl Q := by
  have x1 := sx (L := L) (i := i) (j := 1) (by omega) hL
  have p := p_clear (l := l) (L := L) (I := I) (J := J) (c := sa I i 1) hR
  refine rf_goW rf_mo_165 rf_T_165 200 [1375] (And.intro x1 (And.intro ⟨(show ce + 2 ≤ 646127 by omega), (show sl + 12 ≤ 7157724 by omega)⟩ (p.mono fun u σ' q => ?_)))
  obtain ⟨r, K, J', rfl, rfl, k2, kq⟩ := q
  unfold sa at kq
  rw [← k2] at kq
  refine And.intro x1 (And.intro ⟨(show ce + 2 + 0 ≤ 646127 by omega), (show sl + 12 + 0 ≤ 7157724 by omega)⟩ (kq _ fun K' r' k' t0 => And.intro ⟨(show ce + 2 + 0 + 0 ≤ 646127 by omega), (show sl + 12 + 0 + 0 ≤ 7157724 by omega)⟩ (d_thrown ?_)))
  refine And.intro (fun _ => fgt (nx K' J' _ _ r' (k'.trans k2) (show ce + 2 + 0 + 0 ≤ ce + 4 by omega) (show sl + 12 + 0 + 0 ≤ sl + 24 by omega)) (by repeat (first | exact True.intro | refine And.intro rfl ?_))) (fun w => absurd t0 w)
theorem w_undo (hR : Rel I I) (hi : i + 5 < L) (hL : L < 2147483648) (hc : ce + 4 ≤ 646127) (hs : sl + 24 ≤ 7157724) (nx : nxt l L i ce sl I Q) : rf_W l 165 592 [some (.inr (.inr (some (200, 0)))), some (.inr (.inr (some (7, 0)))), some (.inr (.inr (some (8, 0)))), some (.inr (.inr (some (102, 0)))), some (.inl (Int32.ofNat i)), none, none] [] (sS L I J) ce sl Q := by
  have p := p_undo (l := l) (L := L) (I := I) (J := J)  hR
  refine rf_goW rf_mo_165 rf_T_165 200 [1375] (And.intro ⟨(show ce + 0 ≤ 646127 by omega), (show sl + 0 ≤ 7157724 by omega)⟩ (p.mono fun u σ' q => ?_))
  obtain ⟨r, K, J', rfl, rfl, k2, kq⟩ := q
  refine And.intro ⟨(show ce + 0 + 0 ≤ 646127 by omega), (show sl + 0 + 0 ≤ 7157724 by omega)⟩ (kq _ fun K' r' k' => ?_)
  exact And.intro (fun _ => fgt (nx K' J' _ _ r' k' (show ce + 0 + 0 ≤ ce + 4 by omega) (show sl + 0 + 0 ≤ sl + 24 by omega)) (by repeat (first | exact True.intro | refine And.intro rfl ?_))) (fun w => absurd rfl w)
theorem w_arm (hR : Rel I I) (hi : i + 5 < L) (hL : L < 2147483648) (hc : ce + 4 ≤ 646127) (hs : sl + 24 ≤ 7157724) (nx : nxt l L i ce sl I Q) : rf_W l 165 605 [some (.inr (.inr (some (200, 0)))), some (.inr (.inr (some (7, 0)))), some (.inr (.inr (some (8, 0)))), some (.inr (.inr (some (102, 0)))), some (.inl (Int32.ofNat i)), none, none] [] (sS L I J) ce sl Q := by
  have x1 := sx (L := L) (i := i) (j := 1) (by omega) hL
  have p := p_arm (l := l) (L := L) (I := I) (J := J) (c := sa I i 1) hR
  refine rf_goW rf_mo_165 rf_T_165 200 [1375] (And.intro x1 (And.intro ⟨(show ce + 2 ≤ 646127 by omega), (show sl + 12 ≤ 7157724 by omega)⟩ (p.mono fun u σ' q => ?_)))
  obtain ⟨r, K, J', rfl, rfl, k2, kq⟩ := q
  unfold sa at kq
  rw [← k2] at kq
  refine And.intro x1 (And.intro ⟨(show ce + 2 + 0 ≤ 646127 by omega), (show sl + 12 + 0 ≤ 7157724 by omega)⟩ (kq _ fun K' y r' k' t0 jv => And.intro ⟨(show ce + 2 + 0 + 0 ≤ 646127 by omega), (show sl + 12 + 0 + 0 ≤ 7157724 by omega)⟩ (d_thrown ?_)))
  refine And.intro (fun _ => And.intro (fun _ => fgt (nx K' J' _ _ r' (k'.trans k2) (show ce + 2 + 0 + 0 ≤ ce + 4 by omega) (show sl + 12 + 0 + 0 ≤ sl + 24 by omega)) (by repeat (first | exact True.intro | refine And.intro rfl ?_))) (fun (z : r = 0) => And.intro z102 (And.intro (fun _ => fgt (nx K' J' _ _ r' (k'.trans k2) (show ce + 2 + 0 + 0 ≤ ce + 4 by omega) (show sl + 12 + 0 + 0 ≤ sl + 24 by omega)) (by repeat (first | exact True.intro | refine And.intro rfl ?_))) (fun w => absurd ?_ w)))) (fun w => absurd t0 w)
  have jz := jv z
  show lg_cmp (J' 102 0 0) y.toInt64 = 0
  rw [jz]
  exact lg_s _
theorem w_handle (hR : Rel I I) (hi : i + 5 < L) (hL : L < 2147483648) (hc : ce + 4 ≤ 646127) (hs : sl + 24 ≤ 7157724) (nx : nxt l L i ce sl I Q) : rf_W l 165 661 [some (.inr (.inr (some (200, 0)))), some (.inr (.inr (some (7, 0)))), some (.inr (.inr (some (8, 0)))), some (.inr (.inr (some (102, 0)))), some (.inl (Int32.ofNat i)), none, none] [] (sS L I J) ce sl Q := by
  have x1 := sx (L := L) (i := i) (j := 1) (by omega) hL
  have x2 := sx (L := L) (i := i) (j := 2) (by omega) hL
  have go : ∀ x : Int32, (x = 0 ∨ x = 1) → rf_C l 92 [dk, .inl (sa I i 1), .inl x] (sS L I J) (tpN l L I 93 [mo, .inl (sa I i 1), .inl x]) := fun x hx => p_handle (l := l) (L := L) (I := I) (J := J) (s := sa I i 1) (x := x) hx hR
  refine rf_goW rf_mo_165 rf_T_165 200 [1375] (And.intro x1 (And.intro x2 (And.intro (fun (e : sa I i 2 = 0) => And.intro ⟨(show ce + 1 ≤ 646127 by omega), (show sl + 6 ≤ 7157724 by omega)⟩ ((go 0 (Or.inl rfl)).mono fun u σ' q => ?_)) (fun (e : ¬ sa I i 2 = 0) => And.intro ⟨(show ce + 1 ≤ 646127 by omega), (show sl + 6 ≤ 7157724 by omega)⟩ ((go 1 (Or.inr rfl)).mono fun u σ' q => ?_)))))
  · obtain ⟨r, K, J', rfl, rfl, k2, kq⟩ := q
    unfold sa at kq e
    rw [← k2] at kq e
    exact And.intro x1 (And.intro x2 (And.intro (fun _ => And.intro ⟨(show ce + 1 + 0 ≤ 646127 by omega), (show sl + 6 + 0 ≤ 7157724 by omega)⟩ (kq _ fun K' r' k' t0 => And.intro ⟨(show ce + 1 + 0 + 0 ≤ 646127 by omega), (show sl + 6 + 0 + 0 ≤ 7157724 by omega)⟩ (d_thrown (And.intro (fun _ => fgt (nx K' J' _ _ r' (k'.trans k2) (show ce + 1 + 0 + 0 ≤ ce + 4 by omega) (show sl + 6 + 0 + 0 ≤ sl + 24 by omega)) (by repeat (first | exact True.intro | refine And.intro rfl ?_))) (fun w => absurd t0 w))))) (fun w => absurd e w)))
  · obtain ⟨r, K, J', rfl, rfl, k2, kq⟩ := q
    unfold sa at kq e
    rw [← k2] at kq e
    exact And.intro x1 (And.intro x2 (And.intro (fun w => absurd w e) (fun _ => And.intro ⟨(show ce + 1 + 0 ≤ 646127 by omega), (show sl + 6 + 0 ≤ 7157724 by omega)⟩ (kq _ fun K' r' k' t0 => And.intro ⟨(show ce + 1 + 0 + 0 ≤ 646127 by omega), (show sl + 6 + 0 + 0 ≤ 7157724 by omega)⟩ (d_thrown (And.intro (fun _ => fgt (nx K' J' _ _ r' (k'.trans k2) (show ce + 1 + 0 + 0 ≤ ce + 4 by omega) (show sl + 6 + 0 + 0 ≤ sl + 24 by omega)) (by repeat (first | exact True.intro | refine And.intro rfl ?_))) (fun w => absurd t0 w)))))))
theorem w_go (hR : Rel I I) (hi : i + 5 < L) (hL : L < 2147483648) (hc : ce + 4 ≤ 646127) (hs : sl + 24 ≤ 7157724) (nx : nxt l L i ce sl I Q) : rf_W l 165 725 [some (.inr (.inr (some (200, 0)))), some (.inr (.inr (some (7, 0)))), some (.inr (.inr (some (8, 0)))), some (.inr (.inr (some (102, 0)))), some (.inl (Int32.ofNat i)), none, none] [] (sS L I J) ce sl Q := by
  have x1 := sx (L := L) (i := i) (j := 1) (by omega) hL
  have p := p_go (l := l) (L := L) (I := I) (J := J) (s := sa I i 1) hR
  refine rf_goW rf_mo_165 rf_T_165 200 [1375] (And.intro x1 (And.intro ⟨(show ce + 2 ≤ 646127 by omega), (show sl + 12 ≤ 7157724 by omega)⟩ (p.mono fun u σ' q => ?_)))
  obtain ⟨r, K, J', rfl, rfl, k2, kq⟩ := q
  unfold sa at kq
  rw [← k2] at kq
  refine And.intro x1 (And.intro ⟨(show ce + 2 + 0 ≤ 646127 by omega), (show sl + 12 + 0 ≤ 7157724 by omega)⟩ (kq _ fun K' y r' k' t0 jv => And.intro ⟨(show ce + 2 + 0 + 0 ≤ 646127 by omega), (show sl + 12 + 0 + 0 ≤ 7157724 by omega)⟩ (d_thrown ?_)))
  refine And.intro (fun _ => And.intro (fun _ => fgt (nx K' J' _ _ r' (k'.trans k2) (show ce + 2 + 0 + 0 ≤ ce + 4 by omega) (show sl + 12 + 0 + 0 ≤ sl + 24 by omega)) (by repeat (first | exact True.intro | refine And.intro rfl ?_))) (fun (z : r = 0) => And.intro z102 (And.intro (fun _ => fgt (nx K' J' _ _ r' (k'.trans k2) (show ce + 2 + 0 + 0 ≤ ce + 4 by omega) (show sl + 12 + 0 + 0 ≤ sl + 24 by omega)) (by repeat (first | exact True.intro | refine And.intro rfl ?_))) (fun w => absurd ?_ w)))) (fun w => absurd t0 w)
  have jz := jv z
  show lg_cmp (J' 102 0 0) y.toInt64 = 0
  rw [jz]
  exact lg_s _
theorem w_halt (hR : Rel I I) (hi : i + 5 < L) (hL : L < 2147483648) (hc : ce + 4 ≤ 646127) (hs : sl + 24 ≤ 7157724) (nx : nxt l L i ce sl I Q) : rf_W l 165 781 [some (.inr (.inr (some (200, 0)))), some (.inr (.inr (some (7, 0)))), some (.inr (.inr (some (8, 0)))), some (.inr (.inr (some (102, 0)))), some (.inl (Int32.ofNat i)), none, none] [] (sS L I J) ce sl Q := by
  have x1 := sx (L := L) (i := i) (j := 1) (by omega) hL
  have p := p_halt (l := l) (L := L) (I := I) (J := J) (s := sa I i 1) hR
  refine rf_goW rf_mo_165 rf_T_165 200 [1375] (And.intro x1 (And.intro ⟨(show ce + 1 ≤ 646127 by omega), (show sl + 6 ≤ 7157724 by omega)⟩ (p.mono fun u σ' q => ?_)))
  obtain ⟨r, K, J', rfl, rfl, k2, kq⟩ := q
  unfold sa at kq
  rw [← k2] at kq
  refine And.intro x1 (And.intro ⟨(show ce + 1 + 0 ≤ 646127 by omega), (show sl + 6 + 0 ≤ 7157724 by omega)⟩ (kq _ fun K' y r' k' t0 jv => And.intro ⟨(show ce + 1 + 0 + 0 ≤ 646127 by omega), (show sl + 6 + 0 + 0 ≤ 7157724 by omega)⟩ (d_thrown ?_)))
  refine And.intro (fun _ => And.intro (fun _ => fgt (nx K' J' _ _ r' (k'.trans k2) (show ce + 1 + 0 + 0 ≤ ce + 4 by omega) (show sl + 6 + 0 + 0 ≤ sl + 24 by omega)) (by repeat (first | exact True.intro | refine And.intro rfl ?_))) (fun (z : r = 0) => And.intro z102 (And.intro (fun _ => fgt (nx K' J' _ _ r' (k'.trans k2) (show ce + 1 + 0 + 0 ≤ ce + 4 by omega) (show sl + 6 + 0 + 0 ≤ sl + 24 by omega)) (by repeat (first | exact True.intro | refine And.intro rfl ?_))) (fun w => absurd ?_ w)))) (fun w => absurd t0 w)
  have jz := jv z
  show lg_cmp (J' 102 0 0) y.toInt64 = 0
  rw [jz]
  exact lg_s _
theorem w_tick (hR : Rel I I) (hi : i + 5 < L) (hL : L < 2147483648) (hc : ce + 4 ≤ 646127) (hs : sl + 24 ≤ 7157724) (nx : nxt l L i ce sl I Q) : rf_W l 165 837 [some (.inr (.inr (some (200, 0)))), some (.inr (.inr (some (7, 0)))), some (.inr (.inr (some (8, 0)))), some (.inr (.inr (some (102, 0)))), some (.inl (Int32.ofNat i)), none, none] [] (sS L I J) ce sl Q := by
  have x1 := sx (L := L) (i := i) (j := 1) (by omega) hL
  have p := p_tick (l := l) (L := L) (I := I) (J := J) (n := sa I i 1) hR
  refine rf_goW rf_mo_165 rf_T_165 200 [1375] (And.intro x1 (And.intro ⟨(show ce + 1 ≤ 646127 by omega), (show sl + 6 ≤ 7157724 by omega)⟩ (p.mono fun u σ' q => ?_)))
  obtain ⟨r, K, J', rfl, rfl, k2, kq⟩ := q
  unfold sa at kq
  rw [← k2] at kq
  refine And.intro x1 (And.intro ⟨(show ce + 1 + 0 ≤ 646127 by omega), (show sl + 6 + 0 ≤ 7157724 by omega)⟩ (kq _ fun K' y r' k' t0 jv => And.intro ⟨(show ce + 1 + 0 + 0 ≤ 646127 by omega), (show sl + 6 + 0 + 0 ≤ 7157724 by omega)⟩ (d_thrown ?_)))
  refine And.intro (fun _ => And.intro (fun _ => fgt (nx K' J' _ _ r' (k'.trans k2) (show ce + 1 + 0 + 0 ≤ ce + 4 by omega) (show sl + 6 + 0 + 0 ≤ sl + 24 by omega)) (by repeat (first | exact True.intro | refine And.intro rfl ?_))) (fun (z : r = 0) => And.intro z102 (And.intro (fun _ => fgt (nx K' J' _ _ r' (k'.trans k2) (show ce + 1 + 0 + 0 ≤ ce + 4 by omega) (show sl + 6 + 0 + 0 ≤ sl + 24 by omega)) (by repeat (first | exact True.intro | refine And.intro rfl ?_))) (fun w => absurd ?_ w)))) (fun w => absurd t0 w)
  have jz := jv z
  show lg_cmp (J' 102 0 0) y.toInt64 = 0
  rw [jz]
  exact lg_s _
theorem w_cell (hR : Rel I I) (hi : i + 5 < L) (hL : L < 2147483648) (hc : ce + 4 ≤ 646127) (hs : sl + 24 ≤ 7157724) (nx : nxt l L i ce sl I Q) : rf_W l 165 893 [some (.inr (.inr (some (200, 0)))), some (.inr (.inr (some (7, 0)))), some (.inr (.inr (some (8, 0)))), some (.inr (.inr (some (102, 0)))), some (.inl (Int32.ofNat i)), none, none] [] (sS L I J) ce sl Q := by
  have x1 := sx (L := L) (i := i) (j := 1) (by omega) hL
  have x2 := sx (L := L) (i := i) (j := 2) (by omega) hL
  have p := p_cell (l := l) (L := L) (I := I) (J := J) (h := sa I i 1) (v := sa I i 2) hR
  refine rf_goW rf_mo_165 rf_T_165 200 [1375] (And.intro x1 (And.intro x2 (And.intro ⟨(show ce + 2 ≤ 646127 by omega), (show sl + 12 ≤ 7157724 by omega)⟩ (p.mono fun u σ' q => ?_))))
  obtain ⟨r, K, J', rfl, rfl, k2, kq⟩ := q
  unfold sa at kq
  rw [← k2] at kq
  refine And.intro x1 (And.intro x2 (And.intro ⟨(show ce + 2 + 0 ≤ 646127 by omega), (show sl + 12 + 0 ≤ 7157724 by omega)⟩ (kq _ fun K' r' k' t0 => And.intro ⟨(show ce + 2 + 0 + 0 ≤ 646127 by omega), (show sl + 12 + 0 + 0 ≤ 7157724 by omega)⟩ (d_thrown ?_))))
  refine And.intro (fun _ => fgt (nx K' J' _ _ r' (k'.trans k2) (show ce + 2 + 0 + 0 ≤ ce + 4 by omega) (show sl + 12 + 0 + 0 ≤ sl + 24 by omega)) (by repeat (first | exact True.intro | refine And.intro rfl ?_))) (fun w => absurd t0 w)
theorem w_lose (hR : Rel I I) (hi : i + 5 < L) (hL : L < 2147483648) (hc : ce + 4 ≤ 646127) (hs : sl + 24 ≤ 7157724) (nx : nxt l L i ce sl I Q) : rf_W l 165 941 [some (.inr (.inr (some (200, 0)))), some (.inr (.inr (some (7, 0)))), some (.inr (.inr (some (8, 0)))), some (.inr (.inr (some (102, 0)))), some (.inl (Int32.ofNat i)), none, none] [] (sS L I J) ce sl Q := by
  have x1 := sx (L := L) (i := i) (j := 1) (by omega) hL
  have x2 := sx (L := L) (i := i) (j := 2) (by omega) hL
  have p := p_lose (l := l) (L := L) (I := I) (J := J) (h := sa I i 1) (v := sa I i 2) hR
  refine rf_goW rf_mo_165 rf_T_165 200 [1375] (And.intro x1 (And.intro x2 (And.intro ⟨(show ce + 2 ≤ 646127 by omega), (show sl + 12 ≤ 7157724 by omega)⟩ (p.mono fun u σ' q => ?_))))
  obtain ⟨r, K, J', rfl, rfl, k2, kq⟩ := q
  unfold sa at kq
  rw [← k2] at kq
  refine And.intro x1 (And.intro x2 (And.intro ⟨(show ce + 2 + 0 ≤ 646127 by omega), (show sl + 12 + 0 ≤ 7157724 by omega)⟩ (kq _ fun K' r' k' t0 => And.intro ⟨(show ce + 2 + 0 + 0 ≤ 646127 by omega), (show sl + 12 + 0 + 0 ≤ 7157724 by omega)⟩ (d_thrown ?_))))
  refine And.intro (fun _ => fgt (nx K' J' _ _ r' (k'.trans k2) (show ce + 2 + 0 + 0 ≤ ce + 4 by omega) (show sl + 12 + 0 + 0 ≤ sl + 24 by omega)) (by repeat (first | exact True.intro | refine And.intro rfl ?_))) (fun w => absurd t0 w)
theorem w_stick (hR : Rel I I) (hi : i + 5 < L) (hL : L < 2147483648) (hc : ce + 4 ≤ 646127) (hs : sl + 24 ≤ 7157724) (nx : nxt l L i ce sl I Q) : rf_W l 165 989 [some (.inr (.inr (some (200, 0)))), some (.inr (.inr (some (7, 0)))), some (.inr (.inr (some (8, 0)))), some (.inr (.inr (some (102, 0)))), some (.inl (Int32.ofNat i)), none, none] [] (sS L I J) ce sl Q := by
  have x1 := sx (L := L) (i := i) (j := 1) (by omega) hL
  have x2 := sx (L := L) (i := i) (j := 2) (by omega) hL
  have go : ∀ x : Int32, (x = 0 ∨ x = 1) → rf_C l 143 [dk, .inl (sa I i 1), .inl x] (sS L I J) (tpN l L I 144 [mo, .inl (sa I i 1), .inl x]) := fun x hx => p_stick (l := l) (L := L) (I := I) (J := J) (h := sa I i 1) (v := x) hx hR
  refine rf_goW rf_mo_165 rf_T_165 200 [1375] (And.intro x1 (And.intro x2 (And.intro (fun (e : sa I i 2 = 0) => And.intro ⟨(show ce + 1 ≤ 646127 by omega), (show sl + 6 ≤ 7157724 by omega)⟩ ((go 0 (Or.inl rfl)).mono fun u σ' q => ?_)) (fun (e : ¬ sa I i 2 = 0) => And.intro ⟨(show ce + 1 ≤ 646127 by omega), (show sl + 6 ≤ 7157724 by omega)⟩ ((go 1 (Or.inr rfl)).mono fun u σ' q => ?_)))))
  · obtain ⟨r, K, J', rfl, rfl, k2, kq⟩ := q
    unfold sa at kq e
    rw [← k2] at kq e
    exact And.intro x1 (And.intro x2 (And.intro (fun _ => And.intro ⟨(show ce + 1 + 0 ≤ 646127 by omega), (show sl + 6 + 0 ≤ 7157724 by omega)⟩ (kq _ fun K' r' k' t0 => And.intro ⟨(show ce + 1 + 0 + 0 ≤ 646127 by omega), (show sl + 6 + 0 + 0 ≤ 7157724 by omega)⟩ (d_thrown (And.intro (fun _ => fgt (nx K' J' _ _ r' (k'.trans k2) (show ce + 1 + 0 + 0 ≤ ce + 4 by omega) (show sl + 6 + 0 + 0 ≤ sl + 24 by omega)) (by repeat (first | exact True.intro | refine And.intro rfl ?_))) (fun w => absurd t0 w))))) (fun w => absurd e w)))
  · obtain ⟨r, K, J', rfl, rfl, k2, kq⟩ := q
    unfold sa at kq e
    rw [← k2] at kq e
    exact And.intro x1 (And.intro x2 (And.intro (fun w => absurd w e) (fun _ => And.intro ⟨(show ce + 1 + 0 ≤ 646127 by omega), (show sl + 6 + 0 ≤ 7157724 by omega)⟩ (kq _ fun K' r' k' t0 => And.intro ⟨(show ce + 1 + 0 + 0 ≤ 646127 by omega), (show sl + 6 + 0 + 0 ≤ 7157724 by omega)⟩ (d_thrown (And.intro (fun _ => fgt (nx K' J' _ _ r' (k'.trans k2) (show ce + 1 + 0 + 0 ≤ ce + 4 by omega) (show sl + 6 + 0 + 0 ≤ sl + 24 by omega)) (by repeat (first | exact True.intro | refine And.intro rfl ?_))) (fun w => absurd t0 w)))))))
theorem w_clearReason (hR : Rel I I) (hi : i + 5 < L) (hL : L < 2147483648) (hc : ce + 4 ≤ 646127) (hs : sl + 24 ≤ 7157724) (nx : nxt l L i ce sl I Q) : rf_W l 165 1053 [some (.inr (.inr (some (200, 0)))), some (.inr (.inr (some (7, 0)))), some (.inr (.inr (some (8, 0)))), some (.inr (.inr (some (102, 0)))), some (.inl (Int32.ofNat i)), none, none] [] (sS L I J) ce sl Q := by
  have x1 := sx (L := L) (i := i) (j := 1) (by omega) hL
  have p := p_clearReason (l := l) (L := L) (I := I) (J := J) (p := sa I i 1) hR
  refine rf_goW rf_mo_165 rf_T_165 200 [1375] (And.intro x1 (And.intro ⟨(show ce + 1 ≤ 646127 by omega), (show sl + 6 ≤ 7157724 by omega)⟩ (p.mono fun u σ' q => ?_)))
  obtain ⟨r, K, J', rfl, rfl, k2, kq⟩ := q
  unfold sa at kq
  rw [← k2] at kq
  refine And.intro x1 (And.intro ⟨(show ce + 1 + 0 ≤ 646127 by omega), (show sl + 6 + 0 ≤ 7157724 by omega)⟩ (kq _ fun K' y r' k' t0 y01 jv => And.intro ⟨(show ce + 1 + 0 + 0 ≤ 646127 by omega), (show sl + 6 + 0 + 0 ≤ 7157724 by omega)⟩ (d_thrown ?_)))
  refine And.intro (fun _ => And.intro (fun _ => fgt (nx K' J' _ _ r' (k'.trans k2) (show ce + 1 + 0 + 0 ≤ ce + 4 by omega) (show sl + 6 + 0 + 0 ≤ sl + 24 by omega)) (by repeat (first | exact True.intro | refine And.intro rfl ?_))) (fun (z : r = 0) => And.intro z102 (And.intro (fun y0 => And.intro (fun _ => fgt (nx K' J' _ _ r' (k'.trans k2) (show ce + 1 + 0 + 0 ≤ ce + 4 by omega) (show sl + 6 + 0 + 0 ≤ sl + 24 by omega)) (by repeat (first | exact True.intro | refine And.intro rfl ?_))) (fun w => absurd ?_ w)) (fun y0 => And.intro (fun _ => fgt (nx K' J' _ _ r' (k'.trans k2) (show ce + 1 + 0 + 0 ≤ ce + 4 by omega) (show sl + 6 + 0 + 0 ≤ sl + 24 by omega)) (by repeat (first | exact True.intro | refine And.intro rfl ?_))) (fun w => absurd ?_ w))))) (fun w => absurd t0 w)
  · have jz := jv z
    rw [if_pos y0] at jz
    show lg_cmp (J' 102 0 0) (Int64.ofNat 0) = 0
    rw [jz]
    exact lg_s _
  · have jz := jv z
    rw [if_neg y0] at jz
    show lg_cmp (J' 102 0 0) (Int64.ofNat 1) = 0
    rw [jz]
    exact lg_s _
theorem w_hoist (hR : Rel I I) (hi : i + 5 < L) (hL : L < 2147483648) (hc : ce + 4 ≤ 646127) (hs : sl + 24 ≤ 7157724) (nx : nxt l L i ce sl I Q) : rf_W l 165 1116 [some (.inr (.inr (some (200, 0)))), some (.inr (.inr (some (7, 0)))), some (.inr (.inr (some (8, 0)))), some (.inr (.inr (some (102, 0)))), some (.inl (Int32.ofNat i)), none, none] [] (sS L I J) ce sl Q := by
  have x1 := sx (L := L) (i := i) (j := 1) (by omega) hL
  have x2 := sx (L := L) (i := i) (j := 2) (by omega) hL
  have p := p_hoist (l := l) (L := L) (I := I) (J := J) (h := sa I i 1) (w := sa I i 2) hR
  refine rf_goW rf_mo_165 rf_T_165 200 [1375] (And.intro x1 (And.intro x2 (And.intro ⟨(show ce + 0 ≤ 646127 by omega), (show sl + 0 ≤ 7157724 by omega)⟩ (p.mono fun u σ' q => ?_))))
  obtain ⟨r, K, J', rfl, rfl, k2, kq⟩ := q
  unfold sa at kq
  rw [← k2] at kq
  refine And.intro x1 (And.intro x2 (And.intro ⟨(show ce + 0 + 0 ≤ 646127 by omega), (show sl + 0 + 0 ≤ 7157724 by omega)⟩ (kq _ fun K' r' k' => ?_)))
  exact And.intro (fun _ => fgt (nx K' J' _ _ r' (k'.trans k2) (show ce + 0 + 0 ≤ ce + 4 by omega) (show sl + 0 + 0 ≤ sl + 24 by omega)) (by repeat (first | exact True.intro | refine And.intro rfl ?_))) (fun w => absurd rfl w)
theorem w_piece (hR : Rel I I) (hi : i + 5 < L) (hL : L < 2147483648) (hc : ce + 4 ≤ 646127) (hs : sl + 24 ≤ 7157724) (nx : nxt l L i ce sl I Q) : rf_W l 165 1153 [some (.inr (.inr (some (200, 0)))), some (.inr (.inr (some (7, 0)))), some (.inr (.inr (some (8, 0)))), some (.inr (.inr (some (102, 0)))), some (.inl (Int32.ofNat i)), none, none] [] (sS L I J) ce sl Q := by
  have x1 := sx (L := L) (i := i) (j := 1) (by omega) hL
  have x2 := sx (L := L) (i := i) (j := 2) (by omega) hL
  have p := p_piece (l := l) (L := L) (I := I) (J := J) (p := sa I i 1) (w := sa I i 2) hR
  refine rf_goW rf_mo_165 rf_T_165 200 [1375] (And.intro x1 (And.intro x2 (And.intro ⟨(show ce + 0 ≤ 646127 by omega), (show sl + 0 ≤ 7157724 by omega)⟩ (p.mono fun u σ' q => ?_))))
  obtain ⟨r, K, J', rfl, rfl, k2, kq⟩ := q
  unfold sa at kq
  rw [← k2] at kq
  refine And.intro x1 (And.intro x2 (And.intro ⟨(show ce + 0 + 0 ≤ 646127 by omega), (show sl + 0 + 0 ≤ 7157724 by omega)⟩ (kq _ fun K' r' k' => ?_)))
  exact And.intro (fun _ => fgt (nx K' J' _ _ r' (k'.trans k2) (show ce + 0 + 0 ≤ ce + 4 by omega) (show sl + 0 + 0 ≤ sl + 24 by omega)) (by repeat (first | exact True.intro | refine And.intro rfl ?_))) (fun w => absurd rfl w)
theorem w_cue (hR : Rel I I) (hi : i + 5 < L) (hL : L < 2147483648) (hc : ce + 4 ≤ 646127) (hs : sl + 24 ≤ 7157724) (nx : nxt l L i ce sl I Q) : rf_W l 165 1190 [some (.inr (.inr (some (200, 0)))), some (.inr (.inr (some (7, 0)))), some (.inr (.inr (some (8, 0)))), some (.inr (.inr (some (102, 0)))), some (.inl (Int32.ofNat i)), none, none] [] (sS L I J) ce sl Q := by
  have x1 := sx (L := L) (i := i) (j := 1) (by omega) hL
  have x2 := sx (L := L) (i := i) (j := 2) (by omega) hL
  have p := p_cue (l := l) (L := L) (I := I) (J := J) (c := sa I i 1) (w := sa I i 2) hR
  refine rf_goW rf_mo_165 rf_T_165 200 [1375] (And.intro x1 (And.intro x2 (And.intro ⟨(show ce + 0 ≤ 646127 by omega), (show sl + 0 ≤ 7157724 by omega)⟩ (p.mono fun u σ' q => ?_))))
  obtain ⟨r, K, J', rfl, rfl, k2, kq⟩ := q
  unfold sa at kq
  rw [← k2] at kq
  refine And.intro x1 (And.intro x2 (And.intro ⟨(show ce + 0 + 0 ≤ 646127 by omega), (show sl + 0 + 0 ≤ 7157724 by omega)⟩ (kq _ fun K' r' k' => ?_)))
  exact And.intro (fun _ => fgt (nx K' J' _ _ r' (k'.trans k2) (show ce + 0 + 0 ≤ ce + 4 by omega) (show sl + 0 + 0 ≤ sl + 24 by omega)) (by repeat (first | exact True.intro | refine And.intro rfl ?_))) (fun w => absurd rfl w)
theorem w_moveOf (hR : Rel I I) (hi : i + 5 < L) (hL : L < 2147483648) (hc : ce + 4 ≤ 646127) (hs : sl + 24 ≤ 7157724) (nx : nxt l L i ce sl I Q) : rf_W l 165 1227 [some (.inr (.inr (some (200, 0)))), some (.inr (.inr (some (7, 0)))), some (.inr (.inr (some (8, 0)))), some (.inr (.inr (some (102, 0)))), some (.inl (Int32.ofNat i)), none, none] [] (sS L I J) ce sl Q := by
  have x1 := sx (L := L) (i := i) (j := 1) (by omega) hL
  have x2 := sx (L := L) (i := i) (j := 2) (by omega) hL
  have x3 := sx (L := L) (i := i) (j := 3) (by omega) hL
  have p := p_moveOf (l := l) (L := L) (I := I) (J := J) (c := sa I i 1) (m := sa I i 2) (w := sa I i 3) hR
  refine rf_goW rf_mo_165 rf_T_165 200 [1375] (And.intro x1 (And.intro x2 (And.intro x3 (And.intro ⟨(show ce + 0 ≤ 646127 by omega), (show sl + 0 ≤ 7157724 by omega)⟩ (p.mono fun u σ' q => ?_)))))
  obtain ⟨r, K, J', rfl, rfl, k2, kq⟩ := q
  unfold sa at kq
  rw [← k2] at kq
  refine And.intro x1 (And.intro x2 (And.intro x3 (And.intro ⟨(show ce + 0 + 0 ≤ 646127 by omega), (show sl + 0 + 0 ≤ 7157724 by omega)⟩ (kq _ fun K' r' k' => ?_))))
  exact And.intro (fun _ => fgt (nx K' J' _ _ r' (k'.trans k2) (show ce + 0 + 0 ≤ ce + 4 by omega) (show sl + 0 + 0 ≤ sl + 24 by omega)) (by repeat (first | exact True.intro | refine And.intro rfl ?_))) (fun w => absurd rfl w)
theorem w_meets (hR : Rel I I) (hi : i + 5 < L) (hL : L < 2147483648) (hc : ce + 4 ≤ 646127) (hs : sl + 24 ≤ 7157724) (nx : nxt l L i ce sl I Q) : rf_W l 165 1276 [some (.inr (.inr (some (200, 0)))), some (.inr (.inr (some (7, 0)))), some (.inr (.inr (some (8, 0)))), some (.inr (.inr (some (102, 0)))), some (.inl (Int32.ofNat i)), none, none] [] (sS L I J) ce sl Q := by
  have x1 := sx (L := L) (i := i) (j := 1) (by omega) hL
  have x2 := sx (L := L) (i := i) (j := 2) (by omega) hL
  have p := p_meets (l := l) (L := L) (I := I) (J := J) (a := sa I i 1) (b := sa I i 2) hR
  refine rf_goW rf_mo_165 rf_T_165 200 [1375] (And.intro x1 (And.intro x2 (And.intro ⟨(show ce + 0 ≤ 646127 by omega), (show sl + 0 ≤ 7157724 by omega)⟩ (p.mono fun u σ' q => ?_))))
  obtain ⟨r, K, J', rfl, rfl, k2, kq⟩ := q
  unfold sa at kq
  rw [← k2] at kq
  refine And.intro x1 (And.intro x2 (And.intro ⟨(show ce + 0 + 0 ≤ 646127 by omega), (show sl + 0 + 0 ≤ 7157724 by omega)⟩ (kq _ fun K' r' k' => ?_)))
  exact And.intro (fun _ => fgt (nx K' J' _ _ r' (k'.trans k2) (show ce + 0 + 0 ≤ ce + 4 by omega) (show sl + 0 + 0 ≤ sl + 24 by omega)) (by repeat (first | exact True.intro | refine And.intro rfl ?_))) (fun w => absurd rfl w)
theorem w_rehearse (hR : Rel I I) (hi : i + 5 < L) (hL : L < 2147483648) (hc : ce + 4 ≤ 646127) (hs : sl + 24 ≤ 7157724) (nx : nxt l L i ce sl I Q) : rf_W l 165 1313 [some (.inr (.inr (some (200, 0)))), some (.inr (.inr (some (7, 0)))), some (.inr (.inr (some (8, 0)))), some (.inr (.inr (some (102, 0)))), some (.inl (Int32.ofNat i)), none, none] [] (sS L I J) ce sl Q := by
  have x1 := sx (L := L) (i := i) (j := 1) (by omega) hL
  have x2 := sx (L := L) (i := i) (j := 2) (by omega) hL
  have x3 := sx (L := L) (i := i) (j := 3) (by omega) hL
  have p := p_rehearse (l := l) (L := L) (I := I) (J := J) (c := sa I i 1) (p := sa I i 2) (n := sa I i 3) hR
  refine rf_goW rf_mo_165 rf_T_165 200 [1375] (And.intro x1 (And.intro x2 (And.intro x3 (And.intro ⟨(show ce + 0 ≤ 646127 by omega), (show sl + 0 ≤ 7157724 by omega)⟩ (p.mono fun u σ' q => ?_)))))
  obtain ⟨r, K, J', rfl, rfl, k2, kq⟩ := q
  unfold sa at kq
  rw [← k2] at kq
  refine And.intro x1 (And.intro x2 (And.intro x3 (And.intro ⟨(show ce + 0 + 0 ≤ 646127 by omega), (show sl + 0 + 0 ≤ 7157724 by omega)⟩ (kq _ fun K' r' k' => ?_))))
  exact And.intro (fun _ => fgt (nx K' J' _ _ r' (k'.trans k2) (show ce + 0 + 0 ≤ ce + 4 by omega) (show sl + 0 + 0 ≤ sl + 24 by omega)) (by repeat (first | exact True.intro | refine And.intro rfl ?_))) (fun w => absurd rfl w)
theorem w_version (hR : Rel I I) (hi : i + 5 < L) (hL : L < 2147483648) (hc : ce + 4 ≤ 646127) (hs : sl + 24 ≤ 7157724) (nx : nxt l L i ce sl I Q) : rf_W l 165 1362 [some (.inr (.inr (some (200, 0)))), some (.inr (.inr (some (7, 0)))), some (.inr (.inr (some (8, 0)))), some (.inr (.inr (some (102, 0)))), some (.inl (Int32.ofNat i)), none, none] [] (sS L I J) ce sl Q := by
  have p := p_version (l := l) (L := L) (I := I) (J := J)  hR
  refine rf_goW rf_mo_165 rf_T_165 200 [1375] (And.intro ⟨(show ce + 0 ≤ 646127 by omega), (show sl + 0 ≤ 7157724 by omega)⟩ (p.mono fun u σ' q => ?_))
  obtain ⟨r, K, J', rfl, rfl, k2, kq⟩ := q
  refine And.intro ⟨(show ce + 0 + 0 ≤ 646127 by omega), (show sl + 0 + 0 ≤ 7157724 by omega)⟩ (kq _ fun K' r' k' => ?_)
  exact And.intro (fun _ => fgt (nx K' J' _ _ r' k' (show ce + 0 + 0 ≤ ce + 4 by omega) (show sl + 0 + 0 ≤ sl + 24 by omega)) (by repeat (first | exact True.intro | refine And.intro rfl ?_))) (fun w => absurd rfl w)
end LA
