/-! drives, pieces, moves, a cue's state -/
section LD
variable {l : Launch} {σ : rf_S} {Q : rf_O → rf_S → Prop} {h : Nat}
theorem c_moveTake {i j : Nat} (hq : Q (.inl none) (rS σ 5 i (t5 (σ.2.2.1 5 i) (σ.2.2.1 5 j)))) : rf_C l 49 [.inr (.inr (some (5, i))), .inr (.inr (some (5, j)))] σ Q := by
  apply rf_C.ofW
  refine rf_goW rf_mo_49 rf_T_49 60 [] ?_
  refine eqS (Q := Q) ?_ hq
  simp only [rS_put, rS_rS, rS_I]
  congr 1
  funext f
  by_cases hij : j = i
  · subst hij
    rcases f with _ | _ | _ | _ | _ | f <;> simp [uf, t5, ro_at]
  · have hn : ¬ (5 = 5 ∧ j = i) := fun q => hij q.2
    simp only [ro_ne hn, ro_self]
    rcases f with _ | _ | _ | _ | _ | f <;> simp [uf, t5] <;> (intro h; omega)
/-- a drive that is hung on: piece p, all else 0 but stuck, lost, cell -/
def atR (r : Nat → Int32) (p : Int32) : Nat → Int32 := fun f => if f = 0 then p else if f < 6 then 0 else r f
theorem c_attach {p : Int32} (hq : Q (.inl none) (rS σ 2 h (atR (σ.2.2.1 2 h) p))) : rf_C l 24 [.inr (.inr (some (2, h))), .inl p] σ Q := by
  apply rf_C.ofW
  refine rf_goW rf_mo_24 rf_T_24 60 [] (And.intro (Or.inl rfl) ?_)
  refine eqS (Q := Q) ?_ hq
  simp only [rS_put, rS_rS, rS_I, ro_self]
  congr 1
  funext f
  rcases f with _ | _ | _ | _ | _ | _ | f <;> simp [uf, atR] <;> (intro h; omega)
/-- a frame comes, or is lost -/
def liR (r : Nat → Int32) (m : Int32) : Nat → Int32 := if r 7 ≤ 0 then uf (uf r 4 m) 2 0 else uf (uf r 7 (r 7 - 1)) 2 (r 2 + 1)
theorem c_listen {m : Int32} (hq : Q (.inl none) (rS σ 2 h (liR (σ.2.2.1 2 h) m))) : rf_C l 112 [.inr (.inr (some (2, h))), .inl m] σ Q := by
  apply rf_C.ofW
  refine rf_goW rf_mo_112 rf_T_112 60 [] (And.intro (fun hc => ?_) (fun hc => ?_))
  · refine eqS (Q := Q) ?_ hq
    simp only [rS_put, rS_rS, rS_I, ro_self, liR, if_pos hc]
  · refine eqS (Q := Q) ?_ hq
    simp only [rS_put, rS_rS, rS_I, ro_self, liR, if_neg hc]
    rfl
theorem c_isUninformed (h1 : 4 ≤ σ.2.2.1 2 h 2 → Q (.inl (some (.inl 1))) σ) (h0 : ¬ 4 ≤ σ.2.2.1 2 h 2 → Q (.inl (some (.inl 0))) σ) : rf_C l 113 [.inr (.inr (some (2, h)))] σ Q := by
  apply rf_C.ofW
  refine rf_goW rf_mo_113 rf_T_113 60 [] (And.intro (fun hc => And.intro (Or.inl rfl) (h0 fun q => ?_)) (fun hc => And.intro (Or.inr rfl) (h1 (i_nlt.mp hc))))
  exact i_nlt.mpr q hc
def flT (r : Nat → Int32) : Int32 := r 1 + mx (-14) (mn 14 (r 4 - r 1))
theorem c_following (hq : Q (.inl (some (.inl (flT (σ.2.2.1 2 h))))) σ) : rf_C l 115 [.inr (.inr (some (2, h)))] σ Q := by
  apply rf_C.ofW
  exact rf_goW rf_mo_115 rf_T_115 60 [] (And.intro ⟨by decide, by decide⟩ (c_min (And.intro ⟨by decide, by decide⟩ (c_max hq))))
def ab (x : Int32) : Int32 := if 0 ≤ x then x else -x
def brU (r : Nat → Int32) : Int32 := mx 0 (ab (r 5) - 4)
def brT (r : Nat → Int32) : Int32 := mx 0 (mn 400 (if 0 ≤ r 5 then r 1 + brU r else r 1 - brU r))
theorem c_braking (hq : Q (.inl (some (.inl (brT (σ.2.2.1 2 h))))) σ) : rf_C l 114 [.inr (.inr (some (2, h)))] σ Q := by
  apply rf_C.ofW
  refine rf_goW rf_mo_114 rf_T_114 60 [] (And.intro ⟨by decide, by decide⟩ (c_abs (And.intro ⟨by decide, by decide⟩ (c_max (And.intro (fun hc => ?_) (fun hc => ?_))))))
  · refine And.intro ⟨by decide, by decide⟩ (c_min (And.intro ⟨by decide, by decide⟩ (c_max ?_)))
    rw [brT, if_pos hc] at hq
    exact hq
  · refine And.intro ⟨by decide, by decide⟩ (c_min (And.intro ⟨by decide, by decide⟩ (c_max ?_)))
    rw [brT, if_neg hc] at hq
    exact hq
/-- a drive's tick, behind its frame -/
def ruB (r : Nat → Int32) : Int32 := if 4 ≤ r 2 then 1 else r 3
def ruW (r : Nat → Int32) : Int32 := if r 6 = 0 then (if ruB r = 0 then flT r else brT r) - r 1 else 0
def ruR (r : Nat → Int32) : Nat → Int32 := fun f => if f = 3 then (if ruB r = 0 then 0 else if ruW r = 0 then (if r 2 = 0 then 0 else ruB r) else ruB r) else if f = 5 then ruW r else if f = 1 then r 1 + ruW r else r f
theorem c_learnt {p : Nat} (h1 : 0 < σ.2.2.1 6 p 3 → Q (.inl (some (.inl (σ.2.2.1 6 p 2 / σ.2.2.1 6 p 3)))) σ) (h0 : ¬ 0 < σ.2.2.1 6 p 3 → Q (.inl (some (.inl 0))) σ) : rf_C l 121 [.inr (.inr (some (6, p)))] σ Q := by
  apply rf_C.ofW
  refine rf_goW rf_mo_121 rf_T_121 60 [] (And.intro (fun hc => h0 (i_nlt.mpr hc)) (fun hc => And.intro (fun e => hc (by rw [e]; decide)) (h1 (i_nle.mp hc))))
/-- a cue is busy: armed, running, paused -/
def busy (I : Nat → Nat → Nat → Int32) (c : Nat) : Prop := I 1 c 3 = 1 ∨ I 1 c 3 = 2 ∨ I 1 c 3 = 3
theorem c_isBusy {c : Nat} (h1 : busy σ.2.2.1 c → Q (.inl (some (.inl 1))) σ) (h0 : ¬ busy σ.2.2.1 c → Q (.inl (some (.inl 0))) σ) : rf_C l 35 [.inr (.inr (some (1, c)))] σ Q := by
  apply rf_C.ofW
  refine rf_goW rf_mo_35 rf_T_35 60 [] (And.intro (fun hc => And.intro (Or.inr rfl) (h1 (Or.inl hc))) (fun hc => And.intro (fun hd => And.intro (Or.inr rfl) (h1 (Or.inr (Or.inl hd)))) (fun hd => And.intro (fun he => And.intro (Or.inl rfl) (h0 ?_)) (fun he => And.intro (Or.inr rfl) (h1 (Or.inr (Or.inr he)))))))
  rintro (q | q | q)
  · exact hc q
  · exact hd q
  · exact he q
end LD
