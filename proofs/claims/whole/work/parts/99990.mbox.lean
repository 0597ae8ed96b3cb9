/-! the model: box -/
section MR2
variable {l : Launch} {Q : rf_O → rf_S → Prop} {L : Nat} {I : Nat → Nat → Nat → Int32} {J : Nat → Nat → Nat → Int64} {σ : rf_S}
def mbI (I : Nat → Nat → Nat → Int32) (p : Nat) (w d h : Int32) : Nat → Nat → Nat → Int32 := rf_u3 (rf_u3 (rf_u3 I 100 18 p w) 100 19 p d) 100 20 p h
theorem mbI_back {p : Nat} {w d h : Int32} : mbI (mbI I p w d h) p (I 100 18 p) (I 100 19 p) (I 100 20 p) = I := by
  funext b i f
  by_cases h1 : b = 100 ∧ i = 18 ∧ f = p
  · obtain ⟨rfl, rfl, rfl⟩ := h1; simp [mbI, rf_u3]
  · by_cases h2 : b = 100 ∧ i = 19 ∧ f = p
    · obtain ⟨rfl, rfl, rfl⟩ := h2; simp [mbI, rf_u3]
    · by_cases h3 : b = 100 ∧ i = 20 ∧ f = p
      · obtain ⟨rfl, rfl, rfl⟩ := h3; simp [mbI, rf_u3]
      · simp only [mbI, rf_u3, if_neg h1, if_neg h2, if_neg h3]
def mAc (I : Nat → Nat → Nat → Int32) (c : Nat) : Prop := bsy (I 100 27 c)
def mbC (I : Nat → Nat → Nat → Int32) (p w d h : Int32) : Prop := ¬ (∃ c, c < 8 ∧ mAc I c) ∧ (I 101 3 (nn p) = 0 ∨ ¬ ∃ j, j < 6 ∧ mAn (mbI (thI I 0) (nn p) w d h) p j)
theorem d_box {p w d h : Int32} (h0 : ¬ ok p 6 → Q (.inl none) (sS L (thI I 1) J)) (h1 : ok p 6 → ¬ szA w d h → Q (.inl none) (sS L (thI I 2) J)) (h3 : ok p 6 → szA w d h → ¬ mbC I p w d h → Q (.inl none) (sS L (thI I 3) J))
    (hq : ok p 6 → szA w d h → mbC I p w d h → Q (.inl none) (sS L (mbI (thI I 0) (nn p) w d h) J)) : rf_C l 48 [.inr (.inr (some (8, 0))), .inl p, .inl w, .inl d, .inl h] (sS L I J) Q := by
  apply rf_C.ofW
  have out : ∀ x, ¬ x ≤ 0 → Q (.inl none) (sS L (thI I x) J) → rf_W l 48 44 [some (.inr (.inr (some (8, 0)))), some (.inl p), some (.inl w), some (.inl d), some (.inl h), none, none, none, none] [] (sS L (thI I x) J) 0 0 Q := fun x hx q => rf_goW rf_mo_48 rf_T_48 30 [] (And.intro (fun (e : thI I x 8 0 0 ≤ 0) => absurd (thI_0 (I := I) (x := x) ▸ e) hx) (fun _ => q))
  have good : ok p 6 → szA w d h → rf_W l 48 44 [some (.inr (.inr (some (8, 0)))), some (.inl p), some (.inl w), some (.inl d), some (.inl h), none, none, none, none] [] (sS L (thI I 0) J) 0 0 Q := by
    intro a1 sz
    have h3' := h3 a1 sz
    have hq' := hq a1 sz
    have g161 : ¬ mbC I p w d h → rf_W l 48 161 [some (.inr (.inr (some (8, 0)))), some (.inl p), some (.inl w), some (.inl d), some (.inl h), some (.inl (fl (mAc I) 8)), some (.inl (I 100 18 (nn p))), some (.inl (I 100 19 (nn p))), some (.inl (I 100 20 (nn p)))] [] (sS L (mbI (thI I 0) (nn p) w d h) J) 0 0 Q := by
      intro q
      have o := h3' q
      rw [← th_th (x := 0), ← mbI_back (I := thI I 0) (p := nn p) (w := w) (d := d) (h := h)] at o
      exact rf_goW rf_mo_48 rf_T_48 60 [] (And.intro a1 (And.intro a1 (And.intro a1 o)))
    have g138 : rf_W l 48 138 [some (.inr (.inr (some (8, 0)))), some (.inl p), some (.inl w), some (.inl d), some (.inl h), some (.inl (fl (mAc I) 8)), some (.inl (I 100 18 (nn p))), some (.inl (I 100 19 (nn p))), some (.inl (I 100 20 (nn p)))] [] (sS L (mbI (thI I 0) (nn p) w d h) J) 0 0 Q := by
      refine rf_goW rf_mo_48 rf_T_48 60 [161] (And.intro (fun e => g161 fun q => q.1 (fl_iff.mp e)) (fun e => And.intro a1 (And.intro (fun (f : I 101 3 (nn p) = 0) => hq' ⟨fun q => fl_iff.mpr q e, Or.inl f⟩) (fun (f : ¬ I 101 3 (nn p) = 0) => And.intro ⟨by decide, by decide⟩ (d_meetsAny a1 (And.intro (fun g => g161 fun q => q.2.elim f fun r => r (fl_iff.mp g)) (fun g => hq' ⟨fun q => fl_iff.mpr q e, Or.inr fun q => fl_iff.mpr q g⟩)))))))
    have key : ∀ i, i ≤ 8 → rf_W l 48 58 [some (.inr (.inr (some (8, 0)))), some (.inl p), some (.inl w), some (.inl d), some (.inl h), some (.inl (fl (mAc I) i)), some (.inl (Int32.ofNat i)), none, none] [] (sS L (thI I 0) J) 0 0 Q := by
      refine lp_dn ?_ ?_
      · exact rf_goW rf_mo_48 rf_T_48 60 [58, 138] (And.intro (fun _ => And.intro a1 (And.intro a1 (And.intro a1 (And.intro a1 (And.intro a1 (And.intro a1 g138)))))) (fun hd => absurd (Int32.le_refl _) hd))
      · intro i hi ih
        rw [← nt_succ i] at ih
        have g84 : ∀ z, z = fl (mAc I) (i + 1) → rf_W l 48 84 [some (.inr (.inr (some (8, 0)))), some (.inl p), some (.inl w), some (.inl d), some (.inl h), some (.inl (fl (mAc I) i)), some (.inl (Int32.ofNat i)), none, none] [.inl z] (sS L (thI I 0) J) 0 0 Q := by
          rintro _ rfl
          exact rf_goW rf_mo_48 rf_T_48 20 [58] ih
        refine rf_goW rf_mo_48 rf_T_48 60 [58, 84] (And.intro (fun hd => absurd ((nt_le (i := 8) (by omega) (by omega)).mp hd) (by omega)) (fun _ => And.intro (fun f => g84 _ (fl_k f).symm) (fun f => And.intro ⟨by decide, by decide⟩ (d_isActive hi (fun g => br_eq1 (g84 _ (fl_y (A := mAc I) g).symm)) (fun g => br_eq0 (g84 _ ?_))))))
        rw [fl_n (A := mAc I) g]
        exact f.symm
    have k0 := key 0 (by omega)
    rw [fl_0] at k0
    exact rf_goW rf_mo_48 rf_T_48 30 [58] (And.intro (fun _ => k0) (fun (e : ¬ thI I 0 8 0 0 ≤ 0) => absurd (show thI I 0 8 0 0 ≤ 0 by rw [thI_0]; decide) e))
  exact rf_goW rf_mo_48 rf_T_48 30 [44] (And.intro ⟨by decide, by decide⟩ (d_isNumber (n := 6) (by decide) (fun a1 => br_ne1 (And.intro ⟨by decide, by decide⟩ (d_isSize (fun b1 => br_eq1 (And.intro ⟨by decide, by decide⟩ (d_isSize (fun b2 => br_eq1 (And.intro ⟨by decide, by decide⟩ (d_isSize (fun b3 => br_eq1 (good a1 ⟨b1, b2, b3⟩)) (fun b3 => br_eq0 (out 2 (by decide) (h1 a1 fun q => b3 q.2.2)))))) (fun b2 => br_eq0 (out 2 (by decide) (h1 a1 fun q => b2 q.2.1)))))) (fun b1 => br_eq0 (out 2 (by decide) (h1 a1 fun q => b1 q.1)))))) (fun a1 => br_ne0 (out 1 (by decide) (h0 a1)))))
end MR2
