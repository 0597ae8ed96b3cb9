/-! a tick: the drives, class and model -/
section PO
variable {I M I' M' N K : Nat → Nat → Nat → Int32}
def agr (r r' : Nat → Int32) : Prop := ∀ f, f < 9 → r f = r' f
theorem uf_ag {r r' : Nat → Int32} {j : Nat} {x : Int32} (h : agr r r') : agr (uf r j x) (uf r' j x) := fun f hf => by
  unfold uf
  split
  · rfl
  · exact h f hf
theorem liR_ag {r r' : Nat → Int32} {m : Int32} (h : agr r r') : agr (liR r m) (liR r' m) := by
  unfold liR
  rw [h 7 (by decide), h 2 (by decide)]
  by_cases q : r' 7 ≤ 0
  · rw [if_pos q, if_pos q]; exact uf_ag (uf_ag h)
  · rw [if_neg q, if_neg q]; exact uf_ag (uf_ag h)
theorem ru_ag {r r' : Nat → Int32} (h : agr r r') : agr (ru r) (ru r') := by
  have h0 : agr (ru0 r) (ru0 r') := by
    unfold ru0
    rw [h 2 (by decide)]
    by_cases q : 4 ≤ r' 2
    · rw [if_pos q, if_pos q]; exact uf_ag h
    · rw [if_neg q, if_neg q]; exact h
  have hS : ruS (ru0 r) = ruS (ru0 r') := by
    unfold ruS ruT flT brT brU
    rw [h0 6 (by decide), h0 3 (by decide), h0 1 (by decide), h0 4 (by decide), h0 5 (by decide)]
  have h1 : agr (ru1 (ru0 r) (ruS (ru0 r))) (ru1 (ru0 r') (ruS (ru0 r'))) := by
    unfold ru1
    rw [hS, h0 1 (by decide)]
    exact uf_ag (uf_ag h0)
  unfold ru ru2
  rw [h0 3 (by decide), h0 2 (by decide)]
  by_cases q : ru0 r' 3 = 0
  · rw [if_pos q, if_pos q]; exact h1
  · rw [if_neg q, if_neg q]
    by_cases w : ruS (ru0 r') = 0
    · rw [hS, if_pos w, if_pos w]
      rw [hS] at h1
      by_cases y : ru0 r' 2 = 0
      · rw [if_pos y, if_pos y]; exact uf_ag h1
      · rw [if_neg y, if_neg y]; exact h1
    · rw [hS, if_neg w, if_neg w]
      rw [hS] at h1
      exact h1
theorem rdR_ag {a r r' : Nat → Int32} (h : agr r r') : agr (rdR a r) (rdR a r') := by
  unfold rdR
  rw [h 0 (by decide)]
  by_cases q : r' 0 = -1
  · rw [if_pos q, if_pos q]; exact h
  · rw [if_neg q, if_neg q]; exact ru_ag (liR_ag h)
theorem ru2_f {g : Nat → Int32} {w : Int32} {f : Nat} (h : ¬ (f = 1 ∨ f = 3 ∨ f = 5)) : ru2 g w f = g f := by
  have a1 : ¬ f = 1 := fun q => h (Or.inl q)
  have a3 : ¬ f = 3 := fun q => h (Or.inr (Or.inl q))
  have a5 : ¬ f = 5 := fun q => h (Or.inr (Or.inr q))
  have h1 : ru1 g w f = g f := by
    unfold ru1 uf
    rw [if_neg a1, if_neg a5]
  unfold ru2
  split
  · exact h1
  · split
    · split
      · unfold uf
        rw [if_neg a3]
        exact h1
      · exact h1
    · exact h1
theorem ru2_1 {g : Nat → Int32} {w : Int32} : ru2 g w 1 = g 1 + w ∧ ru2 g w 5 = w ∧ (ru2 g w 3 = g 3 ∨ ru2 g w 3 = 0) := by
  have h1 : ru1 g w 1 = g 1 + w := by simp [ru1, uf]
  have h5 : ru1 g w 5 = w := by simp [ru1, uf]
  have h3 : ru1 g w 3 = g 3 := by simp [ru1, uf]
  unfold ru2
  split
  · exact ⟨h1, h5, Or.inl h3⟩
  · split
    · split
      · refine ⟨?_, ?_, Or.inr (by simp [uf])⟩
        · simpa [uf] using h1
        · simpa [uf] using h5
      · exact ⟨h1, h5, Or.inl h3⟩
    · exact ⟨h1, h5, Or.inl h3⟩
theorem rdR_6 {a r : Nat → Int32} : rdR a r 6 = r 6 ∧ rdR a r 8 = r 8 := by
  have l6 : ∀ m, liR r m 6 = r 6 ∧ liR r m 8 = r 8 := fun m => by
    unfold liR
    split <;> simp [uf]
  have r6 : ∀ g : Nat → Int32, ru0 g 6 = g 6 ∧ ru0 g 8 = g 8 := fun g => by
    unfold ru0
    split <;> simp [uf]
  unfold rdR
  split
  · exact ⟨rfl, rfl⟩
  · unfold ru
    rw [ru2_f (by decide), ru2_f (by decide), (r6 _).1, (r6 _).2, (l6 _).1, (l6 _).2]
    exact ⟨rfl, rfl⟩
def dOk (r : Nat → Int32) : Prop := (r 3 = 0 ∨ r 3 = 1) ∧ pl (r 1) ∧ (-14 ≤ r 5 ∧ r 5 ≤ 14) ∧ pl (r 4)
theorem pl_t {x : Int32} (h : 0 ≤ x.toInt ∧ x.toInt ≤ 400) : pl x := by
  have z0 : (0 : Int32).toInt = 0 := rfl
  have z4 : (400 : Int32).toInt = 400 := rfl
  refine ⟨?_, ?_⟩
  · rw [Int32.le_iff_toInt_le, z0]; exact h.1
  · rw [Int32.le_iff_toInt_le, z4]; exact h.2
theorem rg_t {x : Int32} : (-14 ≤ x ∧ x ≤ 14) ↔ (-14 ≤ x.toInt ∧ x.toInt ≤ 14) := by
  have z0 : (-14 : Int32).toInt = -14 := rfl
  have z4 : (14 : Int32).toInt = 14 := rfl
  rw [Int32.le_iff_toInt_le, Int32.le_iff_toInt_le, z0, z4]
theorem cl_t {d : Int32} : (mx (-14) (mn 14 d)).toInt = if d.toInt ≤ 14 then (if -14 ≤ d.toInt then d.toInt else -14) else 14 := by
  have z0 : (-14 : Int32).toInt = -14 := rfl
  have z4 : (14 : Int32).toInt = 14 := rfl
  rw [← fo_x]
  by_cases q : d ≤ 14
  · rw [if_pos q]
    rw [Int32.le_iff_toInt_le, z4] at q
    rw [if_pos q]
    by_cases w : -14 ≤ d
    · rw [if_pos w]
      rw [Int32.le_iff_toInt_le, z0] at w
      rw [if_pos w]
    · rw [if_neg w]
      rw [Int32.le_iff_toInt_le, z0] at w
      rw [if_neg w, z0]
  · rw [if_neg q]
    rw [Int32.le_iff_toInt_le, z4] at q
    rw [if_neg q, z4]
theorem pl_c {t : Int32} : pl (mx 0 (mn 400 t)) := by
  have z0 : (0 : Int32).toInt = 0 := rfl
  have z4 : (400 : Int32).toInt = 400 := rfl
  have h : (mn 400 t).toInt ≤ 400 := by
    unfold mn
    split
    · next w =>
      rw [Int32.lt_iff_toInt_lt, z4] at w
      omega
    · rw [z4]; omega
  refine pl_t ?_
  unfold mx
  split
  · next q =>
    rw [Int32.lt_iff_toInt_lt, z0] at q
    omega
  · rw [z0]; omega
theorem ruS_ok {g : Nat → Int32} (h : dOk g) : pl (g 1 + ruS g) ∧ (-14 ≤ ruS g ∧ ruS g ≤ 14) := by
  obtain ⟨_, p1, w5, p4⟩ := h
  have a1 := pl_i p1
  have a4 := pl_i p4
  unfold ruS
  by_cases q6 : g 6 = 0
  · rw [if_pos q6]
    unfold ruT
    by_cases q3 : g 3 = 0
    · have e0 : g 1 + mx (-14) (mn 14 (g 4 - g 1)) - g 1 = mx (-14) (mn 14 (g 4 - g 1)) := by rw [Int32.add_comm, Int32.add_sub_cancel]
      rw [if_pos q3, flT, e0]
      have e := cl_t (d := g 4 - g 1)
      rw [i_sub p4 p1] at e
      refine ⟨pl_t ?_, rg_t.mpr ?_⟩
      · rw [t_add (by rw [e]; split <;> (try split) <;> omega), e]
        split <;> (try split) <;> omega
      · rw [e]
        split <;> (try split) <;> omega
    · rw [if_neg q3]
      have pb : pl (brT g) := pl_c
      refine ⟨?_, ?_⟩
      · have e : g 1 + (brT g - g 1) = brT g := by rw [Int32.add_comm, Int32.sub_add_cancel]
        rw [e]; exact pb
      · rw [← br_x p1 w5]
        have z0 : (0 : Int32).toInt = 0 := rfl
        have z4 : (400 : Int32).toInt = 400 := rfl
        have y4 : (4 : Int32).toInt = 4 := rfl
        have u4 : (-4 : Int32).toInt = -4 := rfl
        have w5' := rg_t.mp w5
        have bX : -10 ≤ (brX (g 5)).toInt ∧ (brX (g 5)).toInt ≤ 10 := by
          unfold brX
          split
          · next q =>
            rw [Int32.le_iff_toInt_le, y4] at q
            split
            · rw [z0]; omega
            · next w =>
              rw [Int32.le_iff_toInt_le, u4] at w
              rw [t_add (by omega), y4]
              omega
          · next q =>
            rw [Int32.le_iff_toInt_le, y4] at q
            rw [t_sub (by omega), y4]
            omega
        rw [rg_t]
        unfold brY
        have hax : (g 1 + brX (g 5)).toInt = (g 1).toInt + (brX (g 5)).toInt := t_add (by omega)
        split
        · split
          · omega
          · next w =>
            rw [Int32.le_iff_toInt_le, z0, hax] at w
            rw [t_neg (by omega)]
            omega
        · next w =>
          rw [Int32.le_iff_toInt_le, z4, hax] at w
          rw [t_sub (by omega), z4]
          omega
  · rw [if_neg q6, Int32.add_zero]
    exact ⟨p1, by decide, by decide⟩
theorem ru_dOk {r : Nat → Int32} (h : dOk r) : dOk (ru r) := by
  have h0 : dOk (ru0 r) := by
    unfold ru0
    split
    · obtain ⟨_, b, c, d⟩ := h
      exact ⟨Or.inr (by simp [uf]), by simpa [uf] using b, by simpa [uf] using c, by simpa [uf] using d⟩
    · exact h
  obtain ⟨s1, s2⟩ := ruS_ok h0
  obtain ⟨e1, e5, e3⟩ := ru2_1 (g := ru0 r) (w := ruS (ru0 r))
  unfold ru
  refine ⟨?_, by rw [e1]; exact s1, by rw [e5]; exact s2, by rw [ru2_f (by decide)]; exact h0.2.2.2⟩
  rcases e3 with q | q
  · rw [q]; exact h0.1
  · exact Or.inl q
theorem liR_dOk {r : Nat → Int32} {m : Int32} (h : dOk r) (hm : pl m) : dOk (liR r m) := by
  obtain ⟨a, b, c, d⟩ := h
  unfold liR
  split
  · exact ⟨by simpa [uf] using a, by simpa [uf] using b, by simpa [uf] using c, by simpa [uf] using hm⟩
  · exact ⟨by simpa [uf] using a, by simpa [uf] using b, by simpa [uf] using c, by simpa [uf] using d⟩
theorem mdA_D12 {k : Nat} (hk : k < 12) : agr (mD (mdA M 12) k) (rdR (M 100 23) (mD M k)) := by
  intro f hf
  have x : ∀ b i, ¬ mdF b i = 9 → mdA M 12 b i k = rdR (M 100 23) (mD M k) (mdF b i) := fun b i q => by rw [mdA, if_pos ⟨hk, q⟩]
  have o : ∀ b i, mdF b i = 9 → mdA M 12 b i k = M b i k := fun b i q => mdA_o q
  rcases f9 hf with rfl | rfl | rfl | rfl | rfl | rfl | rfl | rfl | rfl
  · show mdA M 12 100 10 k = _; rw [o 100 10 (by decide), rdR_0]; rfl
  · show mdA M 12 100 11 k = _; rw [x 100 11 (by decide)]; rfl
  · show mdA M 12 100 13 k = _; rw [x 100 13 (by decide)]; rfl
  · show mdA M 12 101 1 k = _; rw [x 101 1 (by decide)]; rfl
  · show mdA M 12 100 12 k = _; rw [x 100 12 (by decide)]; rfl
  · show mdA M 12 100 14 k = _; rw [x 100 14 (by decide)]; rfl
  · show mdA M 12 101 2 k = _; rw [o 101 2 (by decide), rdR_6.1]; rfl
  · show mdA M 12 100 15 k = _; rw [x 100 15 (by decide)]; rfl
  · show mdA M 12 100 16 k = _; rw [o 100 16 (by decide), rdR_6.2]; rfl
theorem dvC_cg {a : Nat → Int32} {r r' : Nat → Nat → Int32} : ∀ n, (∀ k, k < n → agr (r k) (r' k)) → dvC a r n = dvC a r' n
  | 0, _ => rfl
  | n + 1, h => by
    have ih := dvC_cg (a := a) n (fun k hk => h k (by omega))
    have hn := h n (by omega)
    rw [dvC, dvC, ih, hn 0 (by decide), rdR_ag hn 5 (by decide)]
theorem tick_2 (h : Rel I M) : Rel (dvI I 12) (mdA M 12) ∧ dvC (I 100 0) (I 2) 12 = dvC (M 100 23) (mD M) 12 := by
  have ag : ∀ k, k < 12 → agr (I 2 k) (mD M k) := fun k hk f hf => h.1.1 k hk f hf
  refine ⟨?_, by rw [h.1.2.2.2.1.1]; exact dvC_cg 12 ag⟩
  have ec : ∀ b i, ¬ (b = 2) → dvI I 12 b i = I b i := fun b i q => by rw [dvI_b q]
  have mF : ∀ b i, ¬ ((b = 100 ∧ 11 ≤ i ∧ i ≤ 15) ∨ (b = 101 ∧ i = 1)) → mdF b i = 9 := by
    intro b i q
    unfold mdF
    by_cases z : b = 100
    · rw [if_pos z, if_neg (by omega), if_neg (by omega), if_neg (by omega), if_neg (by omega), if_neg (by omega)]
    · rw [if_neg z, if_neg (by omega)]
  have e : ∀ b i, ¬ ((b = 100 ∧ 11 ≤ i ∧ i ≤ 15) ∨ (b = 101 ∧ i = 1)) → mdA M 12 b i = M b i := fun b i q => mdA_r (mF b i q)
  have e31 : mdA M 12 8 0 31 = M 8 0 31 := by rw [e 8 0 (by omega)]
  have e32 : mdA M 12 8 0 32 = M 8 0 32 := by rw [e 8 0 (by omega)]
  refine ⟨⟨?_, RB_fr h.1.2.1 (fun p _ => ec 0 (1 + p) (by omega)) (fun k _ _ => e 100 k (by omega)), RP_fr h.1.2.2.1 (funext fun i => ec 6 i (by omega)) (e 100 25 (by omega)) (e 100 26 (by omega)) (e 101 3 (by omega)), RM_fr h.1.2.2.2.1 (ec 100 0 (by omega)) (ec 100 1 (by omega)) (e 100 23 (by omega)) (e 100 24 (by omega)), RC_fr h.1.2.2.2.2.1 (fun c _ => ec 1 (40 + c) (by omega)) (fun c _ m _ => ec 5 (4 * (40 + c) + m) (by omega)) h.2.2.2.2.1 (fun k _ _ => e 100 k (by omega)), RG_fr h.1.2.2.2.2.2.1 (ec 100 2 (by omega)) (fun k _ _ => e 100 k (by omega)) (fun c _ hb => by rw [e 100 27 (by omega)] at hb; exact hb), RH_fr h.1.2.2.2.2.2.2.1 (ec 101 0 (by omega)) (e 101 4 (by omega)), RJ_fr h.1.2.2.2.2.2.2.2 (funext fun i => ec 3 i (by omega)) (congrFun (ec 7 0 (by omega)) 11) (fun k _ => ec 1 k (by omega)) (fun k _ => ec 5 k (by omega)) (ec 100 6 (by omega)) h.2.2.2.2.2.2.2 e31 e32 (e 100 36 (by omega)) (e 100 37 (by omega))⟩, ?_, VP_fr h.2.2.1 (e 100 23 (by omega)) (e 100 24 (by omega)) (e 100 25 (by omega)) (e 101 3 (by omega)) (e 100 10 (by omega)), VB_fr h.2.2.2.1 (fun k _ _ => e 100 k (by omega)), VC_fr h.2.2.2.2.1 (fun k _ _ => e 100 k (by omega)), VA_fr h.2.2.2.2.2.1 (fun k _ _ => e 100 k (by omega)) (e 100 23 (by omega)) (e 100 24 (by omega)) (e 100 25 (by omega)) (e 101 3 (by omega)) (fun c _ hb => by rw [e 100 27 (by omega)] at hb; exact hb), VS_fr h.2.2.2.2.2.2.1 (fun k _ _ => e 100 k (by omega)) (e 100 24 (by omega)) (fun c _ hb => by rw [e 100 27 (by omega)]; exact hb), VJ_fr h.2.2.2.2.2.2.2 (funext fun i => ec 3 i (by omega)) (fun k _ => ec 1 k (by omega)) (ec 100 6 (by omega)) e31 (e 100 36 (by omega)) (e 100 37 (by omega))⟩
  · intro k hk f hf
    have : dvI I 12 2 k f = rdR (I 100 0) (I 2 k) f := by
      show (if (2 : Nat) = 2 ∧ k < 12 then rdR (I 100 0) (I 2 k) f else I 2 k f) = _
      rw [if_pos ⟨rfl, hk⟩]
    rw [this, h.1.2.2.2.1.1, rdR_ag (ag k hk) f hf]
    exact (mdA_D12 hk f hf).symm
  · intro k hk
    obtain ⟨⟨v1, v2, v3, v4⟩, v5, v6, v7⟩ := h.2.1 k hk
    have d0 : dOk (mD M k) := ⟨v2, v3, v4, v7⟩
    have d1 : dOk (rdR (M 100 23) (mD M k)) := by
      unfold rdR
      by_cases q : mD M k 0 = -1
      · rw [if_pos q]; exact d0
      · rw [if_neg q]
        have o : ok (M 100 10 k) 6 := v1.elim (fun w => absurd w q) id
        exact ru_dOk (liR_dOk d0 (h.2.2.1 (nn (M 100 10 k)) o.2).1)
    have g := mdA_D12 (M := M) hk
    obtain ⟨g3, g1, g5, g4⟩ := d1
    rw [← g 3 (by decide)] at g3
    rw [← g 1 (by decide)] at g1
    rw [← g 5 (by decide)] at g5
    rw [← g 4 (by decide)] at g4
    unfold mdOk
    rw [e 100 10 (by omega), e 100 16 (by omega), e 101 3 (by omega)]
    exact ⟨⟨v1, g3, g1, g5⟩, v5, v6, g4⟩
end PO
