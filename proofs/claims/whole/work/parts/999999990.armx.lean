/-! who could meet: the rows of class and model say the same -/
section QD
variable {P : Nat → Nat → Nat → Int32} {b : Nat → Nat → Int32} {n : Nat → Nat} {ms s R0 mc mm F X : Nat → Int32} {r z φ τ α β u v : Int32}
noncomputable def lgW (P : Nat → Nat → Nat → Int32) (b : Nat → Nat → Int32) (ms mc mm : Nat → Int32) (w f : Int32) : Int32 := cif (mc (nn f) = -1) (ms (nn w)) (lgF (P (nn (mc (nn f)))) (b (nn (mc (nn f)))) ms w (ms (nn w)) 4 (nn (mm (nn f))))
/-- the rows of movers and of furthest places -/
def mvW (P : Nat → Nat → Nat → Int32) (n : Nat → Nat) (s : Nat → Int32) (r : Int32) (mc mm : Nat → Int32) : Prop := (∀ d, d < 8 → act s r d → ∀ m, m < n d → mc (nn (P d 0 m)) = Int32.ofNat d ∧ mm (nn (P d 0 m)) = Int32.ofNat m) ∧ ∀ p, p < 6 → (∀ d, d < 8 → act s r d → ∀ m, m < n d → ¬ nn (P d 0 m) = p) → mc p = -1
def fuW (P : Nat → Nat → Nat → Int32) (b : Nat → Nat → Int32) (n : Nat → Nat) (ms s : Nat → Int32) (r : Int32) (F : Nat → Int32) : Prop := (∀ d, d < 8 → act s r d → fxR (P d) (b d) ms F (n d)) ∧ ∀ p, p < 6 → (∀ d, d < 8 → act s r d → ∀ m, m < n d → ¬ nn (P d 0 m) = p) → F p = ms p
def btW (P : Nat → Nat → Nat → Int32) (b : Nat → Nat → Int32) (n : Nat → Nat) (ms s : Nat → Int32) (r : Int32) : Prop := ∀ d, d < 8 → act s r d → ∀ m, m < n d → IV (b d m) (P d 1 m) (ms (nn (P d 0 m)))
theorem nnq {q w : Int32} (hq : 0 ≤ q) (hw : 0 ≤ w) (e : nn q = nn w) : q = w := by rw [← nn_of hq, e, nn_of hw]
/-- the move of a follower and what it hangs on -/
theorem lg_at (hok : acOk P n s r) (hm : mvW P n s r mc mm) {d m : Nat} (hd : d < 8) (ha : act s r d) (hn : m < n d) (e : P d 0 m = φ) (n5 : n d < 5) : lgW P b ms mc mm τ φ = lgF (P d) (b d) ms τ (ms (nn τ)) 4 m := by
  obtain ⟨m1, m2⟩ := hm.1 d hd ha m hn
  rw [e] at m1 m2
  have q : ¬ Int32.ofNat d = -1 := by
    intro w
    have : nn (Int32.ofNat d) = d := nn_nat (by omega)
    have h0 : (0 : Int32) ≤ Int32.ofNat d := (nt_le (i := 0) (by omega) (by omega)).mpr (by omega)
    rw [w] at h0
    exact absurd h0 (by decide)
  unfold lgW
  rw [m1, m2, cif_f q, nn_nat (by omega), nn_nat (by omega)]
theorem lg_no (hm : mvW P n s r mc mm) (hφ : ok φ 6) (no : ∀ d, d < 8 → act s r d → ∀ m, m < n d → ¬ nn (P d 0 m) = nn φ) : lgW P b ms mc mm τ φ = ms (nn τ) := by
  unfold lgW
  rw [cif_t (hm.2 (nn φ) hφ.2 no)]
theorem half (hok : acOk P n s r) (n5 : ∀ d, d < 8 → n d < 5) (hB : btW P b n ms s r) (hm : mvW P n s r mc mm) (hF : fuW P b n ms s r F) (hX : ∀ d, d < 8 → act s r d → xxR (P d) (b d) ms X (n d) α β) (sp : ∀ q, spc α β q ↔ q = φ ∨ q = τ) (hφ : ok φ 6) (hτ : ok τ 6) (iφ : IV (ms (nn φ)) (F (nn φ)) (X (nn φ))) (iτ : IV (ms (nn τ)) (F (nn τ)) (X (nn τ))) :
    (∀ d, d < 8 → act s r d → ∀ m, m < n d → P d 0 m = φ → (mayG (P d) (b d) X m ∨ X (nn φ) = ms (nn φ))) ↔ (X (nn φ) = ms (nn φ) ∨ IV (lgW P b ms mc mm τ φ) (F (nn τ)) (X (nn τ))) := by
  by_cases ex : ∃ d, d < 8 ∧ act s r d ∧ ∃ m, m < n d ∧ P d 0 m = φ
  · obtain ⟨d, hd, ha, m, hn, e⟩ := ex
    have pn := hok.1 d hd ha
    have fx := hF.1 d hd ha
    have lg := lg_at (b := b) (ms := ms) (τ := τ) hok hm hd ha hn e (n5 d hd)
    have n4 := n5 d hd
    have below : ∀ i, i < m → spc α β (P d 0 i) → P d 0 i = τ := by
      intro i hi q
      rcases (sp _).mp q with w | w
      · have := (pn m hn).2.2.2.2 i (by omega) (by rw [w, e])
        omega
      · exact w
    have ivs : ∀ i, i < m → spc α β (P d 0 i) → IV (ms (nn (P d 0 i))) (F (nn (P d 0 i))) (X (nn (P d 0 i))) := fun i hi q => by
      rw [below i hi q]; exact iτ
    rw [lg]
    constructor
    · intro h
      rcases h d hd ha m hn e with q | q
      · have gf := lA pn (hB d hd ha) fx (hX d hd ha) (m + 1) m (by omega) hn ivs q
        exact Or.inr ((lB pn (hB d hd ha) fx (hX d hd ha) iτ 4 m (by omega) hn below gf).1.mp q)
      · exact Or.inl q
    · intro h d' hd' ha' m' hn' e'
      have dd : d' = d := hok.2 d' hd' ha' d hd ha m' hn' m hn (by rw [e, e'])
      subst dd
      have mm' : m' = m := (pn m hn).2.2.2.2 m' hn' (by rw [e, e'])
      subst mm'
      by_cases q : X (nn φ) = ms (nn φ)
      · exact Or.inr q
      · refine Or.inl ?_
        have gf : mayG (P d') (b d') F m' := by
          rcases fx_or fx hn' with ⟨g, _⟩ | ⟨_, f⟩
          · exact g
          · rw [e] at f
            rw [f] at iφ
            refine absurd ?_ q
            rw [← Int32.toInt_inj]
            unfold IV at iφ
            omega
        exact (lB pn (hB d' hd ha) fx (hX d' hd ha) iτ 4 m' (by omega) hn' below gf).1.mpr (h.elim (fun w => absurd w q) id)
  · have no : ∀ d, d < 8 → act s r d → ∀ m, m < n d → ¬ nn (P d 0 m) = nn φ := fun d hd ha m hn w => ex ⟨d, hd, ha, m, hn, nnq (hok.1 d hd ha m hn).1.1 hφ.1 w⟩
    have fe := hF.2 (nn φ) hφ.2 no
    rw [fe] at iφ
    have xe : X (nn φ) = ms (nn φ) := by
      rw [← Int32.toInt_inj]
      unfold IV at iφ
      omega
    exact ⟨fun _ => Or.inl xe, fun _ _ _ _ _ _ _ => Or.inr xe⟩
theorem lg_iv (hok : acOk P n s r) (n5 : ∀ d, d < 8 → n d < 5) (hB : btW P b n ms s r) (hm : mvW P n s r mc mm) (hF : fuW P b n ms s r F) (hX : ∀ d, d < 8 → act s r d → xxR (P d) (b d) ms X (n d) α β) (sp : ∀ q, spc α β q ↔ q = φ ∨ q = τ) (hφ : ok φ 6) (hτ : ok τ 6) (iτ : IV (ms (nn τ)) (F (nn τ)) (X (nn τ))) (ne : ¬ F (nn φ) = ms (nn φ)) : IV (ms (nn τ)) (F (nn τ)) (lgW P b ms mc mm τ φ) := by
  by_cases ex : ∃ d, d < 8 ∧ act s r d ∧ ∃ m, m < n d ∧ P d 0 m = φ
  · obtain ⟨d, hd, ha, m, hn, e⟩ := ex
    have pn := hok.1 d hd ha
    have fx := hF.1 d hd ha
    have n4 := n5 d hd
    rw [lg_at (b := b) (ms := ms) (τ := τ) hok hm hd ha hn e (n5 d hd)]
    have gf : mayG (P d) (b d) F m := by
      rcases fx_or fx hn with ⟨g, _⟩ | ⟨_, f⟩
      · exact g
      · rw [e] at f
        exact absurd f ne
    refine (lB pn (hB d hd ha) fx (hX d hd ha) iτ 4 m (by omega) hn (fun i hi q => ?_) gf).2
    rcases (sp _).mp q with w | w
    · have := (pn m hn).2.2.2.2 i (by omega) (by rw [w, e])
      omega
    · exact w
  · exact absurd (hF.2 (nn φ) hφ.2 fun d hd ha m hn w => ex ⟨d, hd, ha, m, hn, nnq (hok.1 d hd ha m hn).1.1 hφ.1 w⟩) ne
theorem lg_one (hok : acOk P n s r) (n5 : ∀ d, d < 8 → n d < 5) (hm : mvW P n s r mc mm) (hα : ok α 6) (hβ : ok β 6) (ne : ¬ α = β) : lgW P b ms mc mm α β = ms (nn α) ∨ lgW P b ms mc mm β α = ms (nn β) := by
  by_cases ea : ∃ d, d < 8 ∧ act s r d ∧ ∃ m, m < n d ∧ P d 0 m = α
  · by_cases eb : ∃ d, d < 8 ∧ act s r d ∧ ∃ m, m < n d ∧ P d 0 m = β
    · obtain ⟨d, hd, ha, m, hn, e⟩ := ea
      obtain ⟨d', hd', ha', m', hn', e'⟩ := eb
      by_cases dd : d' = d
      · subst dd
        have pn := hok.1 d' hd ha
        by_cases lt : m < m'
        · right
          rw [lg_at (b := b) (ms := ms) (τ := β) hok hm hd ha hn e (n5 d' hd)]
          refine lC pn 4 m hn fun i hi w => ?_
          have := (pn m' hn').2.2.2.2 i (by omega) (by rw [w, e'])
          omega
        · left
          rw [lg_at (b := b) (ms := ms) (τ := α) hok hm hd' ha' hn' e' (n5 d' hd')]
          refine lC pn 4 m' hn' fun i hi w => ?_
          have := (pn m hn).2.2.2.2 i (by omega) (by rw [w, e])
          omega
      · left
        rw [lg_at (b := b) (ms := ms) (τ := α) hok hm hd' ha' hn' e' (n5 d' hd')]
        exact lC (hok.1 d' hd' ha') 4 m' hn' fun i hi w => dd (hok.2 d' hd' ha' d hd ha i (by omega) m hn (by rw [w, e]))
    · left
      exact lg_no hm hβ fun d hd ha m hn w => eb ⟨d, hd, ha, m, hn, nnq (hok.1 d hd ha m hn).1.1 hβ.1 w⟩
  · right
    exact lg_no hm hα fun d hd ha m hn w => ea ⟨d, hd, ha, m, hn, nnq (hok.1 d hd ha m hn).1.1 hα.1 w⟩
/-- how far, by the plans -/
def farU (P : Nat → Nat → Nat → Int32) (n : Nat → Nat) (ms s : Nat → Int32) (r α u : Int32) : Prop := (∀ d, d < 8 → act s r d → ∀ m, m < n d → P d 0 m = α → u = P d 1 m) ∧ ((∀ d, d < 8 → act s r d → ∀ m, m < n d → ¬ P d 0 m = α) → u = ms (nn α))
noncomputable def cbU (P : Nat → Nat → Nat → Int32) (b : Nat → Nat → Int32) (n : Nat → Nat) (ms s : Nat → Int32) (r α β x y : Int32) : Int32 × (Nat → Int32) := cb2 P b n ms s r α β (1, uf (uf ms (nn α) x) (nn β) y) 8
theorem iz_IV {p q w : Int32} : IV p q w ↔ iz p.toInt q.toInt w.toInt := Iff.rfl
theorem meet_rows (hok : acOk P n s r) (n5 : ∀ d, d < 8 → n d < 5) (hB : btW P b n ms s r) (hm : mvW P n s r mc mm) (hF : fuW P b n ms s r F) (hpl : ∀ p, p < 6 → pl (ms p) ∧ pl (F p)) (hα : ok α 6) (hβ : ok β 6) (ne : ¬ α = β) (hu : farU P n ms s r α u) (hv : farU P n ms s r β v) {ha hb : Int} :
    (∃ x y : Int32, IV (ms (nn α)) u x ∧ IV (ms (nn β)) v y ∧ oz ha hb x.toInt y.toInt ∧ ¬ (cbU P b n ms s r α β x y).1 = 0) ↔
      ((∃ x, iz (ms (nn α)).toInt (F (nn α)).toInt x ∧ oz ha hb x (ms (nn β)).toInt) ∨ (¬ (F (nn β)).toInt = (ms (nn β)).toInt ∧ ∃ x y, iz (lgW P b ms mc mm α β).toInt (F (nn α)).toInt x ∧ iz (ms (nn β)).toInt (F (nn β)).toInt y ∧ oz ha hb x y)) ∧ ((∃ y, iz (ms (nn β)).toInt (F (nn β)).toInt y ∧ oz ha hb (ms (nn α)).toInt y) ∨ (¬ (F (nn α)).toInt = (ms (nn α)).toInt ∧ ∃ x y, iz (lgW P b ms mc mm β α).toInt (F (nn β)).toInt y ∧ iz (ms (nn α)).toInt (F (nn α)).toInt x ∧ oz ha hb x y)) := by
  have nab : ¬ nn α = nn β := fun w => ne (nnq hα.1 hβ.1 w)
  have pma := hpl (nn α) hα.2
  have pmb := hpl (nn β) hβ.2
  -- the row for two places
  have xa : ∀ x y, (cbU P b n ms s r α β x y).2 (nn α) = x := by
    intro x y
    unfold cbU
    rw [cb2_ne (k := 0) 8 (by omega) (fun d _ h2 hd m hmd hs w => hs (Or.inl (nnq (hok.1 d h2 hd m hmd).1.1 hα.1 w)))]
    show uf _ _ _ _ = x
    unfold uf
    rw [if_neg nab, if_pos rfl]
  have xb : ∀ x y, (cbU P b n ms s r α β x y).2 (nn β) = y := by
    intro x y
    unfold cbU
    rw [cb2_ne (k := 0) 8 (by omega) (fun d _ h2 hd m hmd hs w => hs (Or.inr (nnq (hok.1 d h2 hd m hmd).1.1 hβ.1 w)))]
    show uf _ _ _ _ = y
    unfold uf
    rw [if_pos rfl]
  have hX : ∀ x y d, d < 8 → act s r d → xxR (P d) (b d) ms (cbU P b n ms s r α β x y).2 (n d) α β := fun x y d hd ha m hmd hs => cb2_val hok hd ha hmd hs
  have fl : ∀ x y, ¬ (cbU P b n ms s r α β x y).1 = 0 ↔ ∀ d, d < 8 → act s r d → ∀ m, m < n d → spc α β (P d 0 m) → (mayG (P d) (b d) (cbU P b n ms s r α β x y).2 m ∨ (cbU P b n ms s r α β x y).2 (nn (P d 0 m)) = ms (nn (P d 0 m))) := by
    intro x y
    have := cb2_fl (b := b) (ms := ms) (x := α) (y := β) (t := (1, uf (uf ms (nn α) x) (nn β) y)) hok 8 (Nat.le_refl _)
    unfold cbU
    rw [this]
    exact ⟨fun q => q.2, fun q => ⟨fun w => absurd (show (1 : Int32) = 0 from w) (by decide), q⟩⟩
  have fl2 : ∀ x y, ¬ (cbU P b n ms s r α β x y).1 = 0 ↔ (∀ d, d < 8 → act s r d → ∀ m, m < n d → P d 0 m = α → (mayG (P d) (b d) (cbU P b n ms s r α β x y).2 m ∨ (cbU P b n ms s r α β x y).2 (nn α) = ms (nn α))) ∧ ∀ d, d < 8 → act s r d → ∀ m, m < n d → P d 0 m = β → (mayG (P d) (b d) (cbU P b n ms s r α β x y).2 m ∨ (cbU P b n ms s r α β x y).2 (nn β) = ms (nn β)) := by
    intro x y
    rw [fl x y]
    constructor
    · intro q
      refine ⟨fun d hd ha m hmd e => ?_, fun d hd ha m hmd e => ?_⟩
      · have := q d hd ha m hmd (Or.inl e)
        rw [e] at this
        exact this
      · have := q d hd ha m hmd (Or.inr e)
        rw [e] at this
        exact this
    · rintro ⟨q1, q2⟩ d hd ha m hmd hs
      rcases hs with e | e
      · rw [e]; exact q1 d hd ha m hmd e
      · rw [e]; exact q2 d hd ha m hmd e
  have S : ∀ x y : Int32, IV (ms (nn α)) (F (nn α)) x → IV (ms (nn β)) (F (nn β)) y → (¬ (cbU P b n ms s r α β x y).1 = 0 ↔ (x = ms (nn α) ∨ IV (lgW P b ms mc mm β α) (F (nn β)) y) ∧ (y = ms (nn β) ∨ IV (lgW P b ms mc mm α β) (F (nn α)) x)) := by
    intro x y ix iy
    have ix' : IV (ms (nn α)) (F (nn α)) ((cbU P b n ms s r α β x y).2 (nn α)) := by rw [xa]; exact ix
    have iy' : IV (ms (nn β)) (F (nn β)) ((cbU P b n ms s r α β x y).2 (nn β)) := by rw [xb]; exact iy
    have h1 := half hok n5 hB hm hF (hX x y) (fun q => Iff.rfl) hα hβ ix' iy'
    have h2 := half hok n5 hB hm hF (hX x y) (fun q => ⟨fun w => w.elim Or.inr Or.inl, fun w => w.elim Or.inr Or.inl⟩) hβ hα iy' ix'
    rw [fl2, h1, h2, xa, xb]
  -- within what is reached
  have reach : ∀ x y : Int32, IV (ms (nn α)) u x → IV (ms (nn β)) v y → ¬ (cbU P b n ms s r α β x y).1 = 0 → IV (ms (nn α)) (F (nn α)) x ∧ IV (ms (nn β)) (F (nn β)) y := by
    intro x y ix iy f
    have f' := (fl x y).mp f
    have gen : ∀ d, d < 8 → act s r d → ∀ m, m < n d → spc α β (P d 0 m) → IV (ms (nn (P d 0 m))) (F (nn (P d 0 m))) ((cbU P b n ms s r α β x y).2 (nn (P d 0 m))) := by
      intro d hd ha m hmd hs
      refine lS (hok.1 d hd ha) (hB d hd ha) (hF.1 d hd ha) (hX x y d hd ha) (fun i hi si => ?_) (fun i hi si => f' d hd ha i hi si) (m + 1) m (by omega) hmd hs
      rcases si with e | e
      · rw [e, xa, ← hu.1 d hd ha i hi e]; exact ix
      · rw [e, xb, ← hv.1 d hd ha i hi e]; exact iy
    refine ⟨?_, ?_⟩
    · by_cases ex : ∃ d, d < 8 ∧ act s r d ∧ ∃ m, m < n d ∧ P d 0 m = α
      · obtain ⟨d, hd, ha, m, hmd, e⟩ := ex
        have := gen d hd ha m hmd (Or.inl e)
        rw [e, xa] at this
        exact this
      · have no : ∀ d, d < 8 → act s r d → ∀ m, m < n d → ¬ P d 0 m = α := fun d hd ha m hmd w => ex ⟨d, hd, ha, m, hmd, w⟩
        rw [hu.2 no] at ix
        unfold IV at ix ⊢
        omega
    · by_cases ex : ∃ d, d < 8 ∧ act s r d ∧ ∃ m, m < n d ∧ P d 0 m = β
      · obtain ⟨d, hd, ha, m, hmd, e⟩ := ex
        have := gen d hd ha m hmd (Or.inr e)
        rw [e, xb] at this
        exact this
      · have no : ∀ d, d < 8 → act s r d → ∀ m, m < n d → ¬ P d 0 m = β := fun d hd ha m hmd w => ex ⟨d, hd, ha, m, hmd, w⟩
        rw [hv.2 no] at iy
        unfold IV at iy ⊢
        omega
  have wide : ∀ q w x : Int32, ok q 6 → farU P n ms s r q w → IV (ms (nn q)) (F (nn q)) x → IV (ms (nn q)) w x := by
    intro q w x hq hw ix
    by_cases ex : ∃ d, d < 8 ∧ act s r d ∧ ∃ m, m < n d ∧ P d 0 m = q
    · obtain ⟨d, hd, ha, m, hmd, e⟩ := ex
      rcases fx_or (hF.1 d hd ha) hmd with ⟨_, f⟩ | ⟨_, f⟩
      · rw [e] at f
        rw [hw.1 d hd ha m hmd e, ← f]
        exact ix
      · rw [e] at f
        rw [f] at ix
        unfold IV at ix ⊢
        omega
    · have fe := hF.2 (nn q) hq.2 fun d hd ha m hmd y => ex ⟨d, hd, ha, m, hmd, nnq (hok.1 d hd ha m hmd).1.1 hq.1 y⟩
      rw [fe] at ix
      unfold IV at ix ⊢
      omega
  have i32 : ∀ k : Int, 0 ≤ k → k ≤ 400 → (Int32.ofInt k).toInt = k := fun k h1 h2 => by
    have hz : Int32.size = 4294967296 := rfl
    rw [Int32.toInt_ofInt, hz]
    exact Int.bmod_eq_of_le (by omega) (by omega)
  have tq : ∀ q w : Int32, q = w ↔ q.toInt = w.toInt := fun q w => Int32.toInt_inj.symm
  have am := pl_i pma.1
  have af := pl_i pma.2
  have bm := pl_i pmb.1
  have bf := pl_i pmb.2
  have T := two (za := (ms (nn α)).toInt) (fa := (F (nn α)).toInt) (zb := (ms (nn β)).toInt) (fb := (F (nn β)).toInt) (va := (lgW P b ms mc mm α β).toInt) (vb := (lgW P b ms mc mm β α).toInt) (ha := ha) (hb := hb) (S := fun x y => ¬ (cbU P b n ms s r α β (Int32.ofInt x) (Int32.ofInt y)).1 = 0) (fun x y ix iy => by
      have hx : (Int32.ofInt x).toInt = x := i32 x (by unfold iz at ix; omega) (by unfold iz at ix; omega)
      have hy : (Int32.ofInt y).toInt = y := i32 y (by unfold iz at iy; omega) (by unfold iz at iy; omega)
      have := S (Int32.ofInt x) (Int32.ofInt y) (by rw [iz_IV, hx]; exact ix) (by rw [iz_IV, hy]; exact iy)
      rw [tq (Int32.ofInt x) (ms (nn α)), tq (Int32.ofInt y) (ms (nn β)), iz_IV, iz_IV, hx, hy] at this
      exact this) (fun q => by
      have := lg_iv (φ := β) (τ := α) hok n5 hB hm hF (hX (ms (nn α)) (ms (nn β))) (fun q => ⟨fun w => w.elim Or.inr Or.inl, fun w => w.elim Or.inr Or.inl⟩) hβ hα (by rw [xa]; unfold IV; omega) (fun w => q (by rw [w]))
      exact this) (fun q => by
      have := lg_iv (φ := α) (τ := β) hok n5 hB hm hF (hX (ms (nn α)) (ms (nn β))) (fun q => Iff.rfl) hα hβ (by rw [xb]; unfold IV; omega) (fun w => q (by rw [w]))
      exact this) ((lg_one (b := b) (ms := ms) hok n5 hm hα hβ ne).elim (fun w => Or.inl (by rw [w])) (fun w => Or.inr (by rw [w])))
  rw [← T]
  constructor
  · rintro ⟨x, y, ix, iy, o, f⟩
    obtain ⟨jx, jy⟩ := reach x y ix iy f
    have e1 : Int32.ofInt x.toInt = x := by rw [← Int32.toInt_inj]; exact i32 _ (by unfold IV at jx; omega) (by unfold IV at jx; omega)
    have e2 : Int32.ofInt y.toInt = y := by rw [← Int32.toInt_inj]; exact i32 _ (by unfold IV at jy; omega) (by unfold IV at jy; omega)
    refine ⟨x.toInt, y.toInt, jx, jy, ?_, o⟩
    show ¬ (cbU P b n ms s r α β (Int32.ofInt x.toInt) (Int32.ofInt y.toInt)).1 = 0
    rw [e1, e2]
    exact f
  · rintro ⟨x, y, ix, iy, f, o⟩
    have hx : (Int32.ofInt x).toInt = x := i32 x (by unfold iz at ix; omega) (by unfold iz at ix; omega)
    have hy : (Int32.ofInt y).toInt = y := i32 y (by unfold iz at iy; omega) (by unfold iz at iy; omega)
    refine ⟨Int32.ofInt x, Int32.ofInt y, wide α u _ hα hu (by rw [iz_IV, hx]; exact ix), wide β v _ hβ hv (by rw [iz_IV, hy]; exact iy), by rw [hx, hy]; exact o, f⟩
end QD
