/-! the calls side by side: loads, reasons -/
section PC
variable {l : Launch} {L : Nat} {I M I' M' : Nat → Nat → Nat → Int32} {J : Nat → Nat → Nat → Int64}
theorem cif_cg {α : Type} {p q : Prop} {a a' b b' : α} (h : p ↔ q) (h1 : a = a') (h2 : b = b') : cif p a b = cif q a' b' := by
  subst h1
  subst h2
  by_cases z : p
  · rw [cif_t z, cif_t (h.mp z)]
  · rw [cif_f z, cif_f fun w => z (h.mpr w)]
theorem lowF_cg {r r' a a' : Nat → Int32} {p : Int32} : ∀ n, (∀ i, i < n → r i = r' i ∧ a i = a' i) → lowF r a p n = lowF r' a' p n ∧ hghF r a p n = hghF r' a' p n
  | 0, _ => ⟨rfl, rfl⟩
  | n + 1, h => by
    obtain ⟨i1, i2⟩ := lowF_cg (p := p) n (fun i hi => h i (by omega))
    obtain ⟨h1, h2⟩ := h n (by omega)
    rw [lowF, lowF, hghF, hghF, i1, i2, h1, h2]
    exact ⟨rfl, rfl⟩
theorem lod_eq {h : Nat} (r1 : RD I M) (r2 : RP I M) (v1 : VD M) (hh : h < 12) : lod I h = lodV (M 100 16 h) (M 100 10 h) (M 100 26) := by
  have e8 : I 2 h 8 = M 100 16 h := r1 h hh 8 (by decide)
  have e0 : I 2 h 0 = M 100 10 h := r1 h hh 0 (by decide)
  unfold lod lodV
  rw [e8, e0]
  by_cases q : M 100 16 h = -1
  · rw [if_pos q, if_pos q]
    by_cases w : M 100 10 h = -1
    · rw [if_pos w, if_pos w]
    · rw [if_neg w, if_neg w]
      obtain ⟨g1, _, g3, _⟩ := v1 h hh
      have o : ok (M 100 10 h) 6 := g1.1.elim (fun z => absurd z w) id
      exact (r2 (nn (M 100 10 h)) o.2).2.2 (g3 w)
  · rw [if_neg q, if_neg q]
theorem drv_low {p : Int32} (r1 : RD I M) : lowF (dP I) (dA I) p 12 = lowF (M 100 10) (M 100 11) p 12 ∧ hghF (dP I) (dA I) p 12 = hghF (M 100 10) (M 100 11) p 12 := lowF_cg 12 fun i hi => ⟨r1 i hi 0 (by decide), r1 i hi 1 (by decide)⟩
/-- of a hanging piece, the extremes of its drives -/
theorem drv_ext {p : Int32} (v1 : VD M) (v2 : VP M) (hp : ok p 6) (hh : ¬ M 101 3 (nn p) = 0) : lowF (M 100 10) (M 100 11) p 12 = lowG (M 100 10) (M 100 11) p 12 ∧ hghF (M 100 10) (M 100 11) p 12 = hghG (M 100 10) (M 100 11) p 12 ∧ (∃ i, i < 12 ∧ M 100 10 i = p ∧ M 100 11 i = lowG (M 100 10) (M 100 11) p 12) ∧ (∃ i, i < 12 ∧ M 100 10 i = p ∧ M 100 11 i = hghG (M 100 10) (M 100 11) p 12) ∧ (∀ i, i < 12 → M 100 10 i = p → lowG (M 100 10) (M 100 11) p 12 ≤ M 100 11 i ∧ M 100 11 i ≤ hghG (M 100 10) (M 100 11) p 12) ∧ pl (lowG (M 100 10) (M 100 11) p 12) ∧ pl (hghG (M 100 10) (M 100 11) p 12) := by
  obtain ⟨k, hk, ek⟩ := (v2 (nn p) hp.2).2.2.2.2 hh
  rw [nn_of hp.1] at ek
  rcases low_eq (r := M 100 10) (a := M 100 11) (p := p) 12 (fun i hi _ => (v1 i hi).1.2.2.1) with ⟨g0, _⟩ | ⟨g1, g2, g3, g4, g5⟩
  · exact absurd ek (g0 k hk)
  · refine ⟨g1, g2, g3, g4, g5, ?_, ?_⟩
    · obtain ⟨i, hi, _, e⟩ := g3
      rw [← e]; exact (v1 i hi).1.2.2.1
    · obtain ⟨i, hi, _, e⟩ := g4
      rw [← e]; exact (v1 i hi).1.2.2.1
theorem i_20 {k x a : Int32} (hx : pl x) (ha : pl a) : k < x - a ↔ k.toInt < x.toInt - a.toInt := by
  rw [Int32.lt_iff_toInt_lt, i_sub hx ha]
theorem rs_eq {p a : Int32} (r1 : RD I M) (r2 : RP I M) (v1 : VD M) (v2 : VP M) (hp : ok p 6) (hh : ¬ M 101 3 (nn p) = 0) (ha : pl a) : rsF I p a = rsM M p a := by
  obtain ⟨g1, g2, ⟨i3, b3, c3, d3⟩, ⟨i4, b4, c4, d4⟩, g5, p1, p2⟩ := drv_ext v1 v2 hp hh
  obtain ⟨l1, l2⟩ := drv_low (p := p) r1
  unfold rsF rsV rsM
  rw [l1, l2, g1, g2]
  refine cif_cg ?_ rfl (cif_cg ?_ rfl (cif_cg Iff.rfl rfl (cif_cg ?_ rfl rfl)))
  · constructor
    · rintro ⟨i, hi, q1, q2⟩
      refine ⟨i, hi, ?_, ?_⟩
      · rw [← show I 2 i 0 = M 100 10 i from r1 i hi 0 (by decide)]; exact q1
      · rw [← show I 2 i 3 = M 101 1 i from r1 i hi 3 (by decide), ← show I 2 i 2 = M 100 13 i from r1 i hi 2 (by decide)]; exact q2
    · rintro ⟨i, hi, q1, q2⟩
      refine ⟨i, hi, ?_, ?_⟩
      · rw [show I 2 i 0 = M 100 10 i from r1 i hi 0 (by decide)]; exact q1
      · rw [show I 2 i 3 = M 101 1 i from r1 i hi 3 (by decide), show I 2 i 2 = M 100 13 i from r1 i hi 2 (by decide)]; exact q2
  · constructor
    · rintro (q | q)
      · exact ⟨i4, b4, c4, Or.inl (by rw [d4]; exact q)⟩
      · exact ⟨i3, b3, c3, Or.inr (by rw [d3]; exact q)⟩
    · rintro ⟨i, hi, q1, q2⟩
      have pi : pl (M 100 11 i) := (v1 i hi).1.2.2.1
      obtain ⟨e1, e2⟩ := g5 i hi q1
      rw [Int32.le_iff_toInt_le] at e1 e2
      rcases q2 with q | q
      · refine Or.inl ?_
        rw [i_20 pi ha] at q
        rw [i_20 p2 ha]
        omega
      · refine Or.inr ?_
        rw [i_20 ha pi] at q
        rw [i_20 ha p1]
        omega
  · have el : lea I (nn p) = M 100 26 (nn p) := (r2 (nn p) hp.2).2.2 hh
    constructor
    · rintro ⟨i, hi, q1, q2⟩
      refine ⟨i, hi, ?_, ?_⟩
      · rw [← show I 2 i 0 = M 100 10 i from r1 i hi 0 (by decide)]; exact q1
      · rw [← lod_eq r1 r2 v1 hi, ← el]; exact q2
    · rintro ⟨i, hi, q1, q2⟩
      refine ⟨i, hi, ?_, ?_⟩
      · rw [show I 2 i 0 = M 100 10 i from r1 i hi 0 (by decide)]; exact q1
      · rw [lod_eq r1 r2 v1 hi, el]; exact q2
theorem hd_c (h : Rel I I) : ∀ h, h < 12 → ¬ I 2 h 0 = -1 → ok (I 2 h 0) 6 := fun k hk q => by
  have e0 : I 2 k 0 = I 100 10 k := h.1.1 k hk 0 (by decide)
  rw [e0] at q ⊢
  exact (h.2.1 k hk).1.1.elim (fun z => absurd z q) id
theorem hd_m (h : Rel I I) : ∀ h, h < 12 → (I 100 16 h = -1 ∨ 0 ≤ I 100 16 h) ∧ (I 100 10 h = -1 ∨ ok (I 100 10 h) 6) := fun k hk => ⟨(h.2.1 k hk).2.1, (h.2.1 k hk).1.1⟩
theorem p_hoist {h w : Int32} (hR : Rel I I) : rf_C l 148 [dk, .inl h, .inl w] (sS L I J) (tpQ l L I 149 [mo, .inl h, .inl w]) := by
  refine c_hoist (hd_c hR) (fun a1 => ?_) (fun a1 => ?_)
  · exact ⟨_, I, J, rfl, rfl, rfl, fun Q' q => d_hoist (hd_m hR) (fun _ => q _ (Rel_th hR) th_200) (fun a => absurd a a1)⟩
  · refine ⟨_, I, J, rfl, rfl, rfl, fun Q' q => d_hoist (hd_m hR) (fun a => absurd a1 a) (fun _ => ?_)⟩
    have ev : hoV (I 2 (nn h)) (lod I (nn h)) w = hoV (mD I (nn h)) (lodV (I 100 16 (nn h)) (I 100 10 (nn h)) (I 100 26)) w := by
      rw [lod_eq (h := nn h) hR.1.1 hR.1.2.2.1 hR.2.1 a1.2]
      unfold hoV
      rw [hR.1.1 (nn h) a1.2 0 (by decide), hR.1.1 (nn h) a1.2 1 (by decide), hR.1.1 (nn h) a1.2 2 (by decide), hR.1.1 (nn h) a1.2 3 (by decide), hR.1.1 (nn h) a1.2 5 (by decide)]
    rw [ev] at q
    exact q _ (Rel_th hR) th_200
theorem p_piece {p w : Int32} (hR : Rel I I) : rf_C l 150 [dk, .inl p, .inl w] (sS L I J) (tpQ l L I 151 [mo, .inl p, .inl w]) := by
  refine c_piece (fun a1 => ?_) (fun a1 a2 a3 => ?_) (fun a1 a2 a3 => ?_)
  · exact ⟨_, I, J, rfl, rfl, rfl, fun Q' q => d_piece (fun _ => q _ (Rel_th hR) th_200) (fun a b _ => absurd ⟨a, b⟩ a1) (fun a b _ => absurd ⟨a, b⟩ a1)⟩
  · have e1 : I 6 (nn p) 1 = I 101 3 (nn p) := (hR.1.2.2.1 (nn p) a1.2).1
    rw [e1] at a3
    exact ⟨_, I, J, rfl, rfl, rfl, fun Q' q => d_piece (fun a => absurd ⟨a1, a2⟩ a) (fun _ _ _ => q _ (Rel_th hR) th_200) (fun _ _ a => absurd a3 a)⟩
  · obtain ⟨e1, e2, e3⟩ := hR.1.2.2.1 (nn p) a1.2
    rw [e1] at a3
    refine ⟨_, I, J, rfl, rfl, rfl, fun Q' q => d_piece (fun a => absurd ⟨a1, a2⟩ a) (fun _ _ a => absurd a a3) (fun _ _ _ => ?_)⟩
    obtain ⟨g1, g2, _⟩ := drv_ext hR.2.1 hR.2.2.1 a1 a3
    obtain ⟨l1, l2⟩ := drv_low (p := p) hR.1.1
    rw [e2, e3 a3, l1, l2, g1, g2, hR.1.2.2.2.1.1, hR.1.2.2.2.1.2] at q
    exact q _ (Rel_th hR) th_200
theorem mn_s {x : Int32} : mn x x = x := by unfold mn; split <;> rfl
theorem mx_s {x : Int32} : mx x x = x := by unfold mx; split <;> rfl
theorem flo_eq {a b : Nat} (r : RB I M) (ha : a < 6) (hb : b < 6) : flo I (1 + a) (1 + b) ↔ bsd M a b := by
  obtain ⟨a0, a1, a2, a3, a4⟩ := r a ha
  obtain ⟨b0, b1, b2, b3, b4⟩ := r b hb
  unfold flo bsd ovl
  rw [a0, a1, a2, a3, b0, b1, b2, b3]
theorem hei_eq {a b : Nat} {x y : Int32} (r : RB I M) (ha : a < 6) (hb : b < 6) : hei I (1 + a) (1 + b) x x y y ↔ hov M a b x y := by
  obtain ⟨a0, a1, a2, a3, a4⟩ := r a ha
  obtain ⟨b0, b1, b2, b3, b4⟩ := r b hb
  unfold hei hov ovl
  rw [mn_s, mn_s, mx_s, mx_s, a4, b4, Int32.sub_add_cancel, Int32.sub_add_cancel]
theorem p_meets {a b : Int32} (hR : Rel I I) : rf_C l 157 [dk, .inl a, .inl b] (sS L I J) (tpQ l L I 158 [mo, .inl a, .inl b]) := by
  have ev : meC I a b ↔ meM I a b := by
    unfold meC meM hgs
    constructor
    · rintro ⟨q1, ⟨q2, q3⟩, ⟨q4, q5⟩, q6, q7⟩
      rw [(hR.1.2.2.1 (nn a) q2.2).1] at q3
      rw [(hR.1.2.2.1 (nn b) q4.2).1] at q5
      rw [hR.1.2.2.2.1.1] at q7
      exact ⟨q2, q4, q1, q3, q5, (flo_eq hR.1.2.1 q2.2 q4.2).mp q6, (hei_eq hR.1.2.1 q2.2 q4.2).mp q7⟩
    · rintro ⟨q2, q4, q1, q3, q5, q6, q7⟩
      rw [(hR.1.2.2.1 (nn a) q2.2).1, (hR.1.2.2.1 (nn b) q4.2).1, hR.1.2.2.2.1.1]
      exact ⟨q1, ⟨q2, q3⟩, ⟨q4, q5⟩, (flo_eq hR.1.2.1 q2.2 q4.2).mpr q6, (hei_eq hR.1.2.1 q2.2 q4.2).mpr q7⟩
  refine c_meets (fun a1 => ?_) (fun a1 => ?_)
  · exact ⟨_, I, J, rfl, rfl, rfl, fun Q' q => d_meets (fun _ => q _ (Rel_th hR) th_200) (fun a => absurd (ev.mp a1) a)⟩
  · exact ⟨_, I, J, rfl, rfl, rfl, fun Q' q => d_meets (fun a => absurd (ev.mpr a) a1) (fun _ => q _ (Rel_th hR) th_200)⟩
end PC
