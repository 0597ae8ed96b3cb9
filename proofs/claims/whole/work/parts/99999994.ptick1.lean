/-! a tick: what the cues keep -/
theorem tri_sub (k : Nat) : k * (k - 1) / 2 + k = k * (k + 1) / 2 := by
  cases k with
  | zero => rfl
  | succ k =>
    have e : (k + 1) * (k + 1 + 1) = (k + 1) * k + (k + 1) * 2 := Nat.mul_add (k + 1) k 2
    have e2 : (k + 1) * (k + 1 - 1) = (k + 1) * k := rfl
    rw [e, e2]
    omega
theorem mvg_adv {b g a v t h : Int32} (ha : pl a) (hg : pl g) (hv : ok v 13) (ht : ok t 13) (hm : mvg b g a v) : pl (adP a g (adU v t (ab (g - a)) h)) ∧ ok (adU v t (ab (g - a)) h) 13 ∧ mvg b g (adP a g (adU v t (ab (g - a)) h)) (adU v t (ab (g - a)) h) := by
  obtain ⟨k, e, k1, k2, k3⟩ := adv_k (t := t) (h := h) ha hg hv ht (fun _ => hm.2)
  obtain ⟨p1, p2, p3, p4⟩ := adP_k ha hg k3
  rw [e]
  refine ⟨p1, ok_nat k1 (by decide), ?_, ?_⟩
  · obtain ⟨m1, _⟩ := hm
    omega
  · rw [p2, nn_nat (by omega)]
    have := tri_sub k
    omega
theorem mvg_0 {b g a v t h : Int32} (ha : pl a) (hg : pl g) (hv : ok v 13) (ht : ok t 13) (hm : mvg b g a v) (e : g = a) : adU v t 0 h = 0 := by
  refine adU_0 hv ht fun _ => ?_
  obtain ⟨_, m2⟩ := hm
  have z : (ab (g - a)).toInt = 0 := by
    rw [e, Int32.sub_self]
    decide
  rw [z] at m2
  have h2 : nn v * (nn v - 1) / 2 = 0 := by omega
  by_cases q : nn v ≤ 1
  · exact q
  · exfalso
    have : 2 * 1 ≤ nn v * (nn v - 1) := Nat.mul_le_mul (by omega) (by omega)
    omega
theorem adv_inv {P : Nat → Nat → Int32} {b : Nat → Int32} {h : Int32} {s : (Nat → Int32) × (Nat → Int32)} {n : Nat} (pn : pnOk P n) (h1 : ∀ p, p < 6 → pl (s.1 p) ∧ ok (s.2 p) 13) (h2 : ∀ j, j < n → mvg (b j) (P 1 j) (s.1 (nn (P 0 j))) (s.2 (nn (P 0 j)))) : ∀ m, m ≤ n → (∀ p, p < 6 → pl ((advR P b h s m).1 p) ∧ ok ((advR P b h s m).2 p) 13) ∧ ∀ j, j < n → mvg (b j) (P 1 j) ((advR P b h s m).1 (nn (P 0 j))) ((advR P b h s m).2 (nn (P 0 j)))
  | 0, _ => ⟨h1, h2⟩
  | m + 1, hm => by
    obtain ⟨i1, i2⟩ := adv_inv (h := h) pn h1 h2 m (by omega)
    obtain ⟨q0, q2, q1, _, q4⟩ := pn m (by omega)
    rw [advR]
    by_cases c : mayG P b (advR P b h s m).1 m
    · rw [cif_t c, adv1]
      have pa := i1 (nn (P 0 m)) q0.2
      obtain ⟨g1, g2, g3⟩ := mvg_adv (t := P 2 m) (h := h) pa.1 q1 pa.2 q2 (i2 m (by omega))
      refine ⟨fun p hp => ?_, fun j hj => ?_⟩
      · show pl (uf _ _ _ p) ∧ ok (uf _ _ _ p) 13
        unfold uf
        by_cases z : p = nn (P 0 m)
        · rw [if_pos z, if_pos z]; exact ⟨g1, g2⟩
        · rw [if_neg z, if_neg z]; exact i1 p hp
      · show mvg _ _ (uf _ _ _ _) (uf _ _ _ _)
        unfold uf
        by_cases z : nn (P 0 j) = nn (P 0 m)
        · have e := q4 j hj z
          subst e
          rw [if_pos rfl, if_pos rfl]
          exact g3
        · rw [if_neg z, if_neg z]
          exact i2 j hj
    · rw [cif_f c]
      exact ⟨i1, i2⟩
theorem adv_tc {P : Nat → Nat → Int32} {b : Nat → Int32} {h : Int32} {s : (Nat → Int32) × (Nat → Int32)} {n : Nat} (pn : pnOk P n) (h1 : ∀ p, p < 6 → pl (s.1 p) ∧ ok (s.2 p) 13) (h2 : ∀ j, j < n → mvg (b j) (P 1 j) (s.1 (nn (P 0 j))) (s.2 (nn (P 0 j)))) : tcOk P b h n s := by
  refine ⟨fun p hp => (h1 p hp).2, fun i j hi hj e => (pn j hj).2.2.2.2 i hi e, fun m hm => ?_⟩
  obtain ⟨i1, i2⟩ := adv_inv (h := h) pn h1 h2 m (by omega)
  obtain ⟨q0, q2, q1, _, _⟩ := pn m hm
  have pa := i1 (nn (P 0 m)) q0.2
  exact ⟨q1, pa.1, fun e => mvg_0 pa.1 q1 pa.2 q2 (i2 m hm) e⟩
/-- what stands of states, places and speeds -/
def JV (P : Nat → Nat → Nat → Int32) (n : Nat → Nat) (b : Nat → Nat → Int32) (t : (Nat → Int32) × (Nat → Int32) × (Nat → Int32)) : Prop :=
  (∀ p, p < 6 → pl (t.2.1 p) ∧ ok (t.2.2 p) 13) ∧ (∀ c, c < 8 → bsy (t.1 c) → ∀ m, m < n c → mvg (b c m) (P c 1 m) (t.2.1 (nn (P c 0 m))) (t.2.2 (nn (P c 0 m)))) ∧ (∀ p, p < 6 → (∀ c, c < 8 → bsy (t.1 c) → ∀ m, m < n c → ¬ nn (P c 0 m) = p) → t.2.2 p = 0) ∧ ∀ c, c < 8 → bsy (t.1 c) → ∀ d, d < 8 → bsy (t.1 d) → ∀ m, m < n c → ∀ j, j < n d → nn (P c 0 m) = nn (P d 0 j) → c = d
theorem rc_JV {P : Nat → Nat → Nat → Int32} {n : Nat → Nat} {b : Nat → Nat → Int32} {t : (Nat → Int32) × (Nat → Int32) × (Nat → Int32)} {h : Int32} {c : Nat} (pn : ∀ c, c < 8 → pnOk (P c) (n c)) (hc : c < 8) (j : JV P n b t) (x2 : t.1 c = 2) : JV P n b (uf t.1 c (rcR (P c) (b c) h (n c) (t.1 c) t.2).1, (rcR (P c) (b c) h (n c) (t.1 c) t.2).2) := by
  obtain ⟨j1, j2, j3, j4⟩ := j
  have bc : bsy (t.1 c) := by rw [x2]; exact Or.inr (Or.inl rfl)
  obtain ⟨A, hA⟩ : ∃ A, A = advR (P c) (b c) h t.2 (n c) := ⟨_, rfl⟩
  obtain ⟨a1, a2⟩ := adv_inv (h := h) (pn c hc) j1 (j2 c hc bc) (n c) (Nat.le_refl _)
  rw [← hA] at a1 a2
  have ane : ∀ p, (∀ m, m < n c → ¬ nn (P c 0 m) = p) → A.1 p = t.2.1 p ∧ A.2 p = t.2.2 p := by
    intro p hp
    rw [hA]
    exact advR_ne (k := 0) (n c) (by omega) (fun m _ hm => hp m hm)
  have oth : ∀ d, d < 8 → ¬ d = c → bsy (t.1 d) → ∀ m, m < n d → ∀ i, i < n c → ¬ nn (P c 0 i) = nn (P d 0 m) := fun d hd e hb m hm i hi q => e (j4 c hc bc d hd hb i hi m hm q).symm
  have keep : ∀ z, bsy z → JV P n b (uf t.1 c z, A) := by
    intro z hz
    have bb : ∀ d, bsy (uf t.1 c z d) → bsy (t.1 d) := fun d q => by
      unfold uf at q
      by_cases e : d = c
      · rw [e]; exact bc
      · rw [if_neg e] at q; exact q
    have bb' : ∀ d, bsy (t.1 d) → bsy (uf t.1 c z d) := fun d q => by
      unfold uf
      by_cases e : d = c
      · rw [if_pos e]; exact hz
      · rw [if_neg e]; exact q
    refine ⟨a1, fun d hd hb m hm => ?_, fun p hp q => ?_, fun d hd hb f hf hbf m hm i hi e => j4 d hd (bb d hb) f hf (bb f hbf) m hm i hi e⟩
    · by_cases e : d = c
      · subst e; exact a2 m hm
      · obtain ⟨e1, e2⟩ := ane (nn (P d 0 m)) (oth d hd e (bb d hb) m hm)
        show mvg _ _ (A.1 _) (A.2 _)
        rw [e1, e2]
        exact j2 d hd (bb d hb) m hm
    · obtain ⟨_, e2⟩ := ane p (q c hc (bb' c bc))
      show A.2 p = 0
      rw [e2]
      exact j3 p hp fun d hd hb => q d hd (bb' d hb)
  rw [rcR, ← hA]
  by_cases g : ∀ i, i < n c → A.1 (nn (P c 0 i)) = P c 1 i
  · rw [cif_t g]
    have bb : ∀ d, bsy (uf t.1 c 4 d) → bsy (t.1 d) ∧ ¬ d = c := fun d q => by
      unfold uf at q
      by_cases e : d = c
      · rw [if_pos e] at q
        rcases q with w | w | w <;> exact absurd w (by decide)
      · rw [if_neg e] at q; exact ⟨q, e⟩
    refine ⟨fun p hp => ⟨(a1 p hp).1, ?_⟩, fun d hd hb m hm => ?_, fun p hp q => ?_, fun d hd hb f hf hbf m hm i hi e => j4 d hd (bb d hb).1 f hf (bb f hbf).1 m hm i hi e⟩
    · show ok (stR _ _ _ p) 13
      rcases stR_at (P := P c 0) (v := A.2) (n c) p with ⟨w, _⟩ | ⟨w, _⟩
      · rw [w]; exact (a1 p hp).2
      · rw [w]; exact ⟨by decide, by decide⟩
    · obtain ⟨hb', e⟩ := bb d hb
      have no := oth d hd e hb' m hm
      obtain ⟨e1, e2⟩ := ane (nn (P d 0 m)) no
      show mvg _ _ (A.1 _) (stR _ _ _ _)
      rcases stR_at (P := P c 0) (v := A.2) (n c) (nn (P d 0 m)) with ⟨w, _⟩ | ⟨_, i, hi, w⟩
      · rw [w, e1, e2]
        exact j2 d hd hb' m hm
      · exact absurd w (no i hi)
    · show stR _ _ _ p = 0
      rcases stR_at (P := P c 0) (v := A.2) (n c) p with ⟨w, w2⟩ | ⟨w, _⟩
      · obtain ⟨_, e2⟩ := ane p w2
        rw [w, e2]
        refine j3 p hp fun d hd hb => ?_
        by_cases e : d = c
        · subst e; exact w2
        · refine q d hd ?_
          show bsy (uf _ _ _ d)
          unfold uf
          rw [if_neg e]
          exact hb
      · exact w
  · rw [cif_f g]
    by_cases k : h = 0 ∧ ∀ i, i < n c → A.2 (nn (P c 0 i)) = 0
    · rw [cif_t k]
      exact keep 3 (Or.inr (Or.inr rfl))
    · rw [cif_f k]
      exact keep (t.1 c) bc
theorem rcR_s {P : Nat → Nat → Int32} {b : Nat → Int32} {h x : Int32} {n : Nat} {s : (Nat → Int32) × (Nat → Int32)} : (rcR P b h n x s).1 = 4 ∨ (rcR P b h n x s).1 = 3 ∨ (rcR P b h n x s).1 = x := by
  unfold rcR
  by_cases g : ∀ j, j < n → (advR P b h s n).1 (nn (P 0 j)) = P 1 j
  · rw [cif_t g]; exact Or.inl rfl
  · rw [cif_f g]
    by_cases k : h = 0 ∧ ∀ j, j < n → (advR P b h s n).2 (nn (P 0 j)) = 0
    · rw [cif_t k]; exact Or.inr (Or.inl rfl)
    · rw [cif_f k]; exact Or.inr (Or.inr rfl)
theorem rcs_JV {P : Nat → Nat → Nat → Int32} {n : Nat → Nat} {b : Nat → Nat → Int32} {h : Nat → Int32} {t : (Nat → Int32) × (Nat → Int32) × (Nat → Int32)} (pn : ∀ c, c < 8 → pnOk (P c) (n c)) (j : JV P n b t) : ∀ c, c ≤ 8 → JV P n b (rcsR P b h n t c) ∧ (∀ d, c ≤ d → (rcsR P b h n t c).1 d = t.1 d) ∧ ∀ d, bsy ((rcsR P b h n t c).1 d) → bsy (t.1 d)
  | 0, _ => ⟨j, fun _ _ => rfl, fun _ q => q⟩
  | c + 1, hc => by
    obtain ⟨i1, i2, i3⟩ := rcs_JV (h := h) pn j c (by omega)
    rw [rcsR]
    by_cases q : (rcsR P b h n t c).1 c = 2
    · rw [cif_t q]
      refine ⟨rc_JV pn (by omega) i1 q, fun d hd => ?_, fun d w => ?_⟩
      · show uf _ _ _ d = _
        unfold uf
        rw [if_neg (by omega)]
        exact i2 d (by omega)
      · by_cases e : d = c
        · subst e
          refine i3 d ?_
          rw [q]
          exact Or.inr (Or.inl rfl)
        · have w' : bsy (uf (rcsR P b h n t c).1 c (rcR (P c) (b c) (h c) (n c) ((rcsR P b h n t c).1 c) (rcsR P b h n t c).2).1 d) := w
          unfold uf at w'
          rw [if_neg e] at w'
          exact i3 d w'
    · rw [cif_f q]
      exact ⟨i1, fun d hd => i2 d (by omega), i3⟩
/-- class and model tick their cues alike -/
theorem rcR_cg {P P' : Nat → Nat → Int32} {b b' : Nat → Int32} {h x : Int32} {n : Nat} {s : (Nat → Int32) × (Nat → Int32)} (hP : ∀ f m, f < 5 → m < n → P f m = P' f m) (hb : ∀ m, m < n → b m = b' m) (hk : pOk P' n) : rcR P b h n x s = rcR P' b' h n x s := by
  unfold rcR
  rw [advR_cg hP hb hk n (Nat.le_refl _), stR_cg n (fun j hj => hP 0 j (by decide) hj)]
  refine cif_cg ⟨fun q j hj => ?_, fun q j hj => ?_⟩ rfl (cif_cg (and_congr Iff.rfl ⟨fun q j hj => ?_, fun q j hj => ?_⟩) rfl rfl)
  · rw [← hP 0 j (by decide) hj, ← hP 1 j (by decide) hj]; exact q j hj
  · rw [hP 0 j (by decide) hj, hP 1 j (by decide) hj]; exact q j hj
  · rw [← hP 0 j (by decide) hj]; exact q j hj
  · rw [hP 0 j (by decide) hj]; exact q j hj
theorem rcsR_cg {P P' : Nat → Nat → Nat → Int32} {b b' : Nat → Nat → Int32} {h h' : Nat → Int32} {n n' : Nat → Nat} {x x' : Nat → Int32} {s : (Nat → Int32) × (Nat → Int32)} (hn : ∀ c, c < 8 → n c = n' c) (hh : ∀ c, c < 8 → h c = h' c) (hP : ∀ c, c < 8 → ∀ f m, f < 5 → m < n' c → P c f m = P' c f m) (hb : ∀ c, c < 8 → bsy (x' c) → ∀ m, m < n' c → b c m = b' c m) (hk : ∀ c, c < 8 → pOk (P' c) (n' c)) (hx : ∀ c, c < 8 → x c = x' c) : ∀ c, c ≤ 8 → (∀ d, d < 8 → (rcsR P b h n (x, s) c).1 d = (rcsR P' b' h' n' (x', s) c).1 d) ∧ (rcsR P b h n (x, s) c).2 = (rcsR P' b' h' n' (x', s) c).2 ∧ ∀ d, c ≤ d → (rcsR P' b' h' n' (x', s) c).1 d = x' d
  | 0, _ => ⟨hx, rfl, fun _ _ => rfl⟩
  | c + 1, hc => by
    obtain ⟨i1, i2, i3⟩ := rcsR_cg (s := s) hn hh hP hb hk hx c (by omega)
    rw [rcsR, rcsR, i1 c (by omega), i2, hn c (by omega), hh c (by omega)]
    by_cases q : (rcsR P' b' h' n' (x', s) c).1 c = 2
    · have bc : bsy (x' c) := by
        rw [← i3 c (Nat.le_refl _), q]
        exact Or.inr (Or.inl rfl)
      rw [cif_t q, cif_t q, rcR_cg (hP c (by omega)) (hb c (by omega) bc) (hk c (by omega))]
      refine ⟨fun d hd => ?_, rfl, fun d hd => ?_⟩
      · show uf _ _ _ d = uf _ _ _ d
        unfold uf
        split
        · rfl
        · exact i1 d hd
      · show uf _ _ _ d = _
        unfold uf
        rw [if_neg (by omega)]
        exact i3 d (by omega)
    · rw [cif_f q, cif_f q]
      exact ⟨i1, i2, fun d hd => i3 d (by omega)⟩
