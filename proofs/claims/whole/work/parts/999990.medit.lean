/-! the model: station, move, after, clear -/
section MZ
variable {l : Launch} {Q : rf_O → rf_S → Prop} {L : Nat} {I : Nat → Nat → Nat → Int32} {J : Nat → Nat → Nat → Int64} {σ : rf_S}
theorem d_isActive' {c : Int32} (hc : ok c 8) (h1 : bsy (I 100 27 (nn c)) → Q (.inl (some (.inl 1))) (sS L I J)) (h0 : ¬ bsy (I 100 27 (nn c)) → Q (.inl (some (.inl 0))) (sS L I J)) : rf_C l 40 [.inr (.inr (some (8, 0))), .inl c] (sS L I J) Q := by
  have := d_isActive (l := l) (Q := Q) (c := nn c) hc.2 h1 h0
  rw [nn_of hc.1] at this
  exact this
theorem d_keep' {c : Int32} (hc : ok c 8) (he : ok (I 8 0 31) 41) (hq : Q (.inl none) (sS L (kpI I (nn c)) J)) : rf_C l 55 [.inr (.inr (some (8, 0))), .inl c] (sS L I J) Q := by
  have := d_keep (l := l) (Q := Q) (c := nn c) hc.2 he hq
  rw [nn_of hc.1] at this
  exact this
theorem thI_8 {x : Int32} {f : Nat} (h : ¬ f = 0) : thI I x 8 0 f = I 8 0 f := u3_f h 0
theorem kpI_o {c k : Nat} (h1 : ¬ k = 36) (h2 : ¬ k = 37) : kpI I c 100 k = I 100 k := by rw [kpI, u3_b (by decide), kpS_o h1 h2]
theorem d_station {c s : Int32} (he : ok (I 8 0 31) 41) (h0 : ¬ (ok c 8 ∧ ok s 3) → Q (.inl none) (sS L (thI I 1) J)) (h2 : ok c 8 → ok s 3 → bsy (I 100 27 (nn c)) → Q (.inl none) (sS L (thI I 2) J))
    (hq : ok c 8 → ok s 3 → ¬ bsy (I 100 27 (nn c)) → Q (.inl none) (sS L (rf_u3 (kpI (thI I 0) (nn c)) 100 28 (nn c) s) J)) : rf_C l 56 [.inr (.inr (some (8, 0))), .inl c, .inl s] (sS L I J) Q := by
  apply rf_C.ofW
  have out : ∀ x, ¬ x ≤ 0 → Q (.inl none) (sS L (thI I x) J) → rf_W l 56 38 [some (.inr (.inr (some (8, 0)))), some (.inl c), some (.inl s)] [] (sS L (thI I x) J) 0 0 Q := fun x hx q => rf_goW rf_mo_56 rf_T_56 30 [] (And.intro (fun (e : thI I x 8 0 0 ≤ 0) => absurd (thI_0 (I := I) (x := x) ▸ e) hx) (fun _ => q))
  have good : ok c 8 → ok s 3 → ¬ bsy (I 100 27 (nn c)) → rf_W l 56 38 [some (.inr (.inr (some (8, 0)))), some (.inl c), some (.inl s)] [] (sS L (thI I 0) J) 0 0 Q := by
    intro a1 a2 a3
    exact rf_goW rf_mo_56 rf_T_56 30 [] (And.intro (fun _ => And.intro ⟨by decide, by decide⟩ (d_keep' a1 (by rw [thI_8 (by decide)]; exact he) (And.intro a1 (hq a1 a2 a3)))) (fun (e : ¬ thI I 0 8 0 0 ≤ 0) => absurd (show thI I 0 8 0 0 ≤ 0 by rw [thI_0]; decide) e))
  exact rf_goW rf_mo_56 rf_T_56 30 [38] (And.intro ⟨by decide, by decide⟩ (d_isNumber (n := 8) (by decide) (fun a1 => br_eq1 (And.intro ⟨by decide, by decide⟩ (d_isNumber (n := 3) (by decide) (fun a2 => br_ne1 (And.intro ⟨by decide, by decide⟩ (d_isActive' a1 (fun b => br_eq1 (out 2 (by decide) (h2 a1 a2 b))) (fun b => br_eq0 (good a1 a2 b))))) (fun a2 => br_ne0 (out 1 (by decide) (h0 fun q => a2 q.2)))))) (fun a1 => br_eq0 (out 1 (by decide) (h0 fun q => a1 q.1)))))
theorem d_clear {c : Int32} (he : ok (I 8 0 31) 41) (h0 : ¬ ok c 8 → Q (.inl none) (sS L (thI I 1) J)) (h2 : ok c 8 → bsy (I 100 27 (nn c)) → Q (.inl none) (sS L (thI I 2) J))
    (hq : ok c 8 → ¬ bsy (I 100 27 (nn c)) → Q (.inl none) (sS L (rf_u3 (kpI (thI I 0) (nn c)) 100 29 (nn c) 0) J)) : rf_C l 66 [.inr (.inr (some (8, 0))), .inl c] (sS L I J) Q := by
  apply rf_C.ofW
  have out : ∀ x, ¬ x ≤ 0 → Q (.inl none) (sS L (thI I x) J) → rf_W l 66 30 [some (.inr (.inr (some (8, 0)))), some (.inl c)] [] (sS L (thI I x) J) 0 0 Q := fun x hx q => rf_goW rf_mo_66 rf_T_66 30 [] (And.intro (fun (e : thI I x 8 0 0 ≤ 0) => absurd (thI_0 (I := I) (x := x) ▸ e) hx) (fun _ => q))
  have good : ok c 8 → ¬ bsy (I 100 27 (nn c)) → rf_W l 66 30 [some (.inr (.inr (some (8, 0)))), some (.inl c)] [] (sS L (thI I 0) J) 0 0 Q := by
    intro a1 a3
    exact rf_goW rf_mo_66 rf_T_66 30 [] (And.intro (fun _ => And.intro ⟨by decide, by decide⟩ (d_keep' a1 (by rw [thI_8 (by decide)]; exact he) (And.intro a1 (hq a1 a3)))) (fun (e : ¬ thI I 0 8 0 0 ≤ 0) => absurd (show thI I 0 8 0 0 ≤ 0 by rw [thI_0]; decide) e))
  exact rf_goW rf_mo_66 rf_T_66 30 [30] (And.intro ⟨by decide, by decide⟩ (d_isNumber (n := 8) (by decide) (fun a1 => br_ne1 (And.intro ⟨by decide, by decide⟩ (d_isActive' a1 (fun b => br_eq1 (out 2 (by decide) (h2 a1 b))) (fun b => br_eq0 (good a1 b))))) (fun a1 => br_ne0 (out 1 (by decide) (h0 a1)))))
def mvM (I : Nat → Nat → Nat → Int32) (c : Nat) (p g t : Int32) : Prop := (0 ≤ g ∧ g ≤ 400) ∧ (1 ≤ t ∧ t ≤ 12) ∧ ¬ mHas I c p
def maI (K : Nat → Nat → Nat → Int32) (c i : Nat) (p g t : Int32) : Nat → Nat → Nat → Int32 := rf_u3 (rf_u3 (rf_u3 (rf_u3 (rf_u3 (rf_u3 K 100 30 i p) 100 31 i g) 100 32 i t) 100 33 i (-1)) 100 34 i 0) 100 29 c (K 100 29 c + 1)
theorem d_moveFor' {c p : Int32} (hc : ok c 8) (hn : ok (I 100 29 (nn c)) 5) (h1 : mHas I (nn c) p → ∀ m, 0 ≤ m → Q (.inl (some (.inl m))) (sS L I J)) (h0 : ¬ mHas I (nn c) p → Q (.inl (some (.inl (-1)))) (sS L I J)) : rf_C l 41 [.inr (.inr (some (8, 0))), .inl c, .inl p] (sS L I J) Q := by
  have h5 : nn (I 100 29 (nn c)) < 5 := hn.2
  have pos : ∀ m, m < mN I (nn c) → (0 : Int32) ≤ Int32.ofNat m := by
    intro m hm
    have hm' : m < nn (I 100 29 (nn c)) := hm
    exact (nt_le (i := 0) (n := m) (by omega) (by omega)).mpr (by omega)
  have := d_moveFor (l := l) (Q := Q) (c := nn c) (p := p) (L := L) (I := I) (J := J) hc.2 hn (fun m hm e _ => h1 ⟨m, hm, e⟩ _ (pos m hm)) (fun q => h0 fun ⟨m, h, e⟩ => q m h e)
  rw [nn_of hc.1] at this
  exact this
theorem d_move {c p g t : Int32} (he : ok (I 8 0 31) 41) (hn : ∀ c, c < 8 → ok (I 100 29 c) 5) (h0 : ¬ (ok c 8 ∧ ok p 6) → Q (.inl (some (.inl 0))) (sS L (thI I 1) J)) (h1 : ok c 8 → ok p 6 → ¬ mvM I (nn c) p g t → Q (.inl (some (.inl 0))) (sS L (thI I 2) J))
    (h2 : ok c 8 → ok p 6 → mvM I (nn c) p g t → ¬ (¬ bsy (I 100 27 (nn c)) ∧ ¬ I 100 29 (nn c) = 4) → Q (.inl (some (.inl 0))) (sS L (thI I 3) J))
    (hq : ok c 8 → ok p 6 → mvM I (nn c) p g t → ¬ bsy (I 100 27 (nn c)) → ¬ I 100 29 (nn c) = 4 → Q (.inl (some (.inl (I 100 29 (nn c) + 1 - 1)))) (sS L (maI (kpI (thI I 0) (nn c)) (nn c) (4 * nn c + nn (I 100 29 (nn c))) p g t) J)) : rf_C l 60 [.inr (.inr (some (8, 0))), .inl c, .inl p, .inl g, .inl t] (sS L I J) Q := by
  apply rf_C.ofW
  have out : ∀ x, ¬ x ≤ 0 → Q (.inl (some (.inl 0))) (sS L (thI I x) J) → rf_W l 60 86 [some (.inr (.inr (some (8, 0)))), some (.inl c), some (.inl p), some (.inl g), some (.inl t), none] [] (sS L (thI I x) J) 0 0 Q := fun x hx q => rf_goW rf_mo_60 rf_T_60 30 [] (And.intro (fun (e : thI I x 8 0 0 ≤ 0) => absurd (thI_0 (I := I) (x := x) ▸ e) hx) (fun _ => q))
  have good : ok c 8 → ok p 6 → mvM I (nn c) p g t → ¬ bsy (I 100 27 (nn c)) → ¬ I 100 29 (nn c) = 4 → rf_W l 60 86 [some (.inr (.inr (some (8, 0)))), some (.inl c), some (.inl p), some (.inl g), some (.inl t), none] [] (sS L (thI I 0) J) 0 0 Q := by
    intro a1 a2 a3 a4 a5
    have hq' := hq a1 a2 a3 a4 a5
    have hcn := hn (nn c) a1.2
    have h5 : nn (I 100 29 (nn c)) < 5 := hcn.2
    have h4 : ok (I 100 29 (nn c)) 4 := by
      refine ⟨hcn.1, ?_⟩
      have : ¬ nn (I 100 29 (nn c)) = 4 := fun q => a5 (by rw [← nn_of hcn.1, q]; rfl)
      show nn _ < 4
      omega
    obtain ⟨K, hK⟩ : ∃ K, K = kpI (thI I 0) (nn c) := ⟨_, rfl⟩
    rw [← hK] at hq'
    have e29 : K 100 29 (nn c) = I 100 29 (nn c) := by rw [hK, kpI_o (by decide) (by decide), thI_b (by decide)]
    have i32 : 0 ≤ 4 * c + I 100 29 (nn c) ∧ (4 * c + I 100 29 (nn c)).toNatClampNeg < 32 := by
      have := ixo (c := nn c) a1.2 h4
      rw [nn_of a1.1] at this
      exact this
    have n32 : (4 * c + I 100 29 (nn c)).toNatClampNeg = 4 * nn c + nn (I 100 29 (nn c)) := by
      have := nno (c := nn c) a1.2 h4
      rw [nn_of a1.1] at this
      exact this
    have hk : ∀ x, x = 4 * c + I 100 29 (nn c) → rf_W l 60 112 [some (.inr (.inr (some (8, 0)))), some (.inl c), some (.inl p), some (.inl g), some (.inl t), some (.inl x)] [] (sS L K J) 0 0 Q := by
      rintro _ rfl
      refine rf_goW rf_mo_60 rf_T_60 60 [] (And.intro i32 (And.intro i32 (And.intro i32 (And.intro i32 (And.intro i32 (And.intro a1 (And.intro a1 (And.intro a1 ?_))))))))
      rw [n32]
      have r : ∀ i x b, rf_u3 (rf_u3 (rf_u3 (rf_u3 (rf_u3 K 100 30 i p) 100 31 i g) 100 32 i t) 100 33 i x) 100 34 i b 100 29 (nn c) = K 100 29 (nn c) := fun i x b => by simp [rf_u3]
      have fin : ∀ i, i = 4 * nn c + nn (I 100 29 (nn c)) → Q (.inl (some (.inl (rf_u3 (rf_u3 (rf_u3 (rf_u3 (rf_u3 (rf_u3 K 100 30 i p) 100 31 i g) 100 32 i t) 100 33 i (-1)) 100 34 i 0) 100 29 (nn c) (rf_u3 (rf_u3 (rf_u3 (rf_u3 (rf_u3 K 100 30 i p) 100 31 i g) 100 32 i t) 100 33 i (-1)) 100 34 i 0 100 29 (nn c) + 1) 100 29 (nn c) - 1)))) (sS L (rf_u3 (rf_u3 (rf_u3 (rf_u3 (rf_u3 (rf_u3 K 100 30 i p) 100 31 i g) 100 32 i t) 100 33 i (-1)) 100 34 i 0) 100 29 (nn c) (rf_u3 (rf_u3 (rf_u3 (rf_u3 (rf_u3 K 100 30 i p) 100 31 i g) 100 32 i t) 100 33 i (-1)) 100 34 i 0 100 29 (nn c) + 1)) J) := by
        rintro i rfl
        rw [r]
        have r2 : ∀ (M : Nat → Nat → Nat → Int32) y, rf_u3 M 100 29 (nn c) y 100 29 (nn c) = y := fun M y => by simp [rf_u3]
        rw [r2]
        rw [← e29] at hq'
        rw [← e29]
        exact hq'
      exact fin _ rfl
    refine rf_goW rf_mo_60 rf_T_60 30 [112] (And.intro (fun _ => And.intro ⟨by decide, by decide⟩ (d_keep' a1 (by rw [thI_8 (by decide)]; exact he) (And.intro a1 ?_))) (fun (e : ¬ thI I 0 8 0 0 ≤ 0) => absurd (show thI I 0 8 0 0 ≤ 0 by rw [thI_0]; decide) e))
    rw [← hK]
    exact hk _ (by show 4 * c + K 100 29 (nn c) = _; rw [e29])
  refine rf_goW rf_mo_60 rf_T_60 60 [86] (And.intro ⟨by decide, by decide⟩ (d_isNumber (n := 8) (by decide) (fun a1 => br_eq1 (And.intro ⟨by decide, by decide⟩ (d_isNumber (n := 6) (by decide) (fun a2 => br_ne1 ?_) (fun a2 => br_ne0 (out 1 (by decide) (h0 fun q => a2 q.2)))))) (fun a1 => br_eq0 (out 1 (by decide) (h0 fun q => a1 q.1)))))
  refine And.intro (fun e => out 2 (by decide) (h1 a1 a2 fun q => i_nlt.mpr q.1.1 e)) (fun e1 => And.intro (fun e => out 2 (by decide) (h1 a1 a2 fun q => i_nlt.mpr q.1.2 e)) (fun e2 => And.intro (fun e => out 2 (by decide) (h1 a1 a2 fun q => i_nlt.mpr q.2.1.1 e)) (fun e3 => And.intro (fun e => out 2 (by decide) (h1 a1 a2 fun q => i_nlt.mpr q.2.1.2 e)) (fun e4 => And.intro ⟨by decide, by decide⟩ (d_moveFor' a1 (hn _ a1.2) (fun b m hm => And.intro (fun e => absurd e (i_nlt.mpr hm)) (fun _ => out 2 (by decide) (h1 a1 a2 fun q => q.2.2 b))) (fun b => And.intro (fun _ => ?_) (fun e => absurd (by decide) e)))))))
  have a3 : mvM I (nn c) p g t := ⟨⟨i_nlt.mp e1, i_nlt.mp e2⟩, ⟨i_nlt.mp e3, i_nlt.mp e4⟩, b⟩
  exact And.intro ⟨by decide, by decide⟩ (d_isActive' a1 (fun k => br_ne1 (out 3 (by decide) (h2 a1 a2 a3 fun q => q.1 k))) (fun k => br_ne0 (And.intro a1 (And.intro (fun e => good a1 a2 a3 k e) (fun (e : I 100 29 (nn c) = 4) => out 3 (by decide) (h2 a1 a2 a3 fun q => q.2 e))))))
end MZ
