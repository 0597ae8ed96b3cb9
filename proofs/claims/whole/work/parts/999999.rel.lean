/-! class and model hold the same desk -/
def pnOk (P : Nat → Nat → Int32) (n : Nat) : Prop := ∀ m, m < n → ok (P 0 m) 6 ∧ ok (P 2 m) 13 ∧ pl (P 1 m) ∧ (¬ P 3 m = -1 → ok (P 3 m) m) ∧ ∀ j, j < n → nn (P 0 j) = nn (P 0 m) → j = m
/-- drives, boxes, pieces, masters, cues, beginnings, handles -/
def RD (I M : Nat → Nat → Nat → Int32) : Prop := ∀ h, h < 12 → ∀ f, f < 9 → I 2 h f = mD M h f
def RB (I M : Nat → Nat → Nat → Int32) : Prop := ∀ p, p < 6 → I 0 (1 + p) 0 = M 100 21 p ∧ I 0 (1 + p) 1 = M 100 22 p ∧ I 0 (1 + p) 2 = M 100 18 p ∧ I 0 (1 + p) 3 = M 100 19 p ∧ I 0 (1 + p) 4 = M 100 20 p
def RP (I M : Nat → Nat → Nat → Int32) : Prop := ∀ p, p < 6 → I 6 p 1 = M 101 3 p ∧ I 6 p 4 = M 100 25 p ∧ (¬ M 101 3 p = 0 → lea I p = M 100 26 p)
def RM (I M : Nat → Nat → Nat → Int32) : Prop := I 100 0 = M 100 23 ∧ I 100 1 = M 100 24
def RC (I M : Nat → Nat → Nat → Int32) : Prop := ∀ c, c < 8 → I 1 (40 + c) 3 = M 100 27 c ∧ I 1 (40 + c) 2 = M 100 28 c ∧ I 1 (40 + c) 1 = M 100 29 c ∧ ∀ m, m < mN M c → ∀ f, f < 5 → I 5 (4 * (40 + c) + m) f = mP M c f m
def RG (I M : Nat → Nat → Nat → Int32) : Prop := ∀ c, c < 8 → bsy (M 100 27 c) → ∀ m, m < mN M c → I 100 2 (nn (mP M c 0 m)) = mB M c m
def RH (I M : Nat → Nat → Nat → Int32) : Prop := ∀ s, s < 3 → I 101 0 s = M 101 4 s
/-- the journal: a ring against a row -/
def jpo (I M : Nat → Nat → Nat → Int32) (k : Nat) : Nat := (nn (I 3 0 2) + 41 + k - nn (M 8 0 31)) % 40
def RJ (I M : Nat → Nat → Nat → Int32) : Prop := I 3 0 3 = M 8 0 31 ∧ I 7 0 11 = M 8 0 32 ∧ ∀ k, k < nn (M 8 0 31) → I 100 6 (jpo I M k) = M 100 37 k ∧ I 1 (jpo I M k) 2 = M 100 36 (23 * k) ∧ I 1 (jpo I M k) 1 = M 100 36 (23 * k + 1) ∧ ∀ m, m < nn (M 100 36 (23 * k + 1)) → ∀ f, f < 5 → I 5 (4 * jpo I M k + m) f = M 100 36 (23 * k + 3 + f + 5 * m)
/-- what stands always -/
def VD (M : Nat → Nat → Nat → Int32) : Prop := ∀ h, h < 12 → mdOk M h ∧ (M 100 16 h = -1 ∨ 0 ≤ M 100 16 h) ∧ (¬ M 100 10 h = -1 → ¬ M 101 3 (nn (M 100 10 h)) = 0) ∧ pl (M 100 12 h)
def VP (M : Nat → Nat → Nat → Int32) : Prop := ∀ p, p < 6 → pl (M 100 23 p) ∧ ok (M 100 24 p) 13 ∧ 0 ≤ M 100 25 p ∧ (M 101 3 p = 0 → M 100 23 p = 0 ∧ M 100 25 p = 0) ∧ (¬ M 101 3 p = 0 → ∃ h, h < 12 ∧ M 100 10 h = Int32.ofNat p)
def VB (M : Nat → Nat → Nat → Int32) : Prop := ∀ p, p < 6 → (1 ≤ M 100 18 p ∧ M 100 18 p ≤ 40) ∧ (1 ≤ M 100 19 p ∧ M 100 19 p ≤ 40) ∧ (1 ≤ M 100 20 p ∧ M 100 20 p ≤ 40) ∧ (0 ≤ M 100 21 p ∧ M 100 21 p ≤ 100) ∧ (0 ≤ M 100 22 p ∧ M 100 22 p ≤ 100)
def VC (M : Nat → Nat → Nat → Int32) : Prop := ∀ c, c < 8 → ok (M 100 28 c) 3 ∧ ok (M 100 29 c) 5 ∧ pnOk (mP M c) (mN M c)
/-- a moving piece: where it is, how fast -/
def mvg (b g a v : Int32) : Prop := ((b.toInt ≤ a.toInt ∧ a.toInt ≤ g.toInt) ∨ (g.toInt ≤ a.toInt ∧ a.toInt ≤ b.toInt)) ∧ ((nn v * (nn v - 1) / 2 : Nat) : Int) ≤ (ab (g - a)).toInt
def VA (M : Nat → Nat → Nat → Int32) : Prop := ∀ c, c < 8 → bsy (M 100 27 c) → ∀ m, m < mN M c → ¬ M 101 3 (nn (mP M c 0 m)) = 0 ∧ M 100 25 (nn (mP M c 0 m)) = 0 ∧ mvg (mB M c m) (mP M c 1 m) (M 100 23 (nn (mP M c 0 m))) (M 100 24 (nn (mP M c 0 m))) ∧ ∀ d, d < 8 → bsy (M 100 27 d) → ∀ j, j < mN M d → nn (mP M d 0 j) = nn (mP M c 0 m) → d = c
def VS (M : Nat → Nat → Nat → Int32) : Prop := ∀ p, p < 6 → (∀ c, c < 8 → bsy (M 100 27 c) → ∀ m, m < mN M c → ¬ nn (mP M c 0 m) = p) → M 100 24 p = 0
def VJ (I M : Nat → Nat → Nat → Int32) : Prop := ok (I 3 0 2) 40 ∧ ok (M 8 0 31) 41 ∧ (∀ k, k < 40 → ok (I 1 k 1) 5 ∧ ok (I 100 6 k) 8) ∧ ∀ k, k < nn (M 8 0 31) → ok (M 100 37 k) 8 ∧ ok (M 100 36 (23 * k)) 3 ∧ ok (M 100 36 (23 * k + 1)) 5 ∧ pnOk (fun f m => M 100 36 (23 * k + 3 + f + 5 * m)) (nn (M 100 36 (23 * k + 1)))
def Rel (I M : Nat → Nat → Nat → Int32) : Prop := (RD I M ∧ RB I M ∧ RP I M ∧ RM I M ∧ RC I M ∧ RG I M ∧ RH I M ∧ RJ I M) ∧ VD M ∧ VP M ∧ VB M ∧ VC M ∧ VA M ∧ VS M ∧ VJ I M
/-- cells of the class, cells of the model -/
def cC (b i : Nat) : Prop := b = 0 ∨ b = 1 ∨ b = 2 ∨ b = 3 ∨ b = 5 ∨ b = 6 ∨ b = 7 ∨ (b = 100 ∧ i < 10) ∨ (b = 101 ∧ i = 0)
def cM (b i : Nat) : Prop := b = 8 ∨ (b = 100 ∧ 10 ≤ i ∧ i < 40) ∨ (b = 101 ∧ 1 ≤ i ∧ i < 5)
section RL
variable {I M I' M' : Nat → Nat → Nat → Int32}
/-- frames: what each part hangs on -/
theorem RD_fr (h : RD I M) (e2 : I' 2 = I 2) (e : ∀ k, 10 ≤ k → k < 17 → M' 100 k = M 100 k) (e1 : M' 101 1 = M 101 1) (e3 : M' 101 2 = M 101 2) : RD I' M' := by
  intro p hp f hf
  have : mD M' p f = mD M p f := by
    unfold mD
    rw [e 10 (by omega) (by omega), e 11 (by omega) (by omega), e 12 (by omega) (by omega), e 13 (by omega) (by omega), e 14 (by omega) (by omega), e 15 (by omega) (by omega), e 16 (by omega) (by omega), e1, e3]
  rw [this, e2]
  exact h p hp f hf
theorem RB_fr (h : RB I M) (e0 : ∀ p, p < 6 → I' 0 (1 + p) = I 0 (1 + p)) (e : ∀ k, 18 ≤ k → k < 23 → M' 100 k = M 100 k) : RB I' M' := by
  intro p hp
  rw [e0 p hp, e 18 (by omega) (by omega), e 19 (by omega) (by omega), e 20 (by omega) (by omega), e 21 (by omega) (by omega), e 22 (by omega) (by omega)]
  exact h p hp
theorem RP_fr (h : RP I M) (e6 : I' 6 = I 6) (e25 : M' 100 25 = M 100 25) (e26 : M' 100 26 = M 100 26) (e3 : M' 101 3 = M 101 3) : RP I' M' := by
  intro p hp
  unfold lea
  rw [e6, e25, e26, e3]
  exact h p hp
theorem RM_fr (h : RM I M) (e0 : I' 100 0 = I 100 0) (e1 : I' 100 1 = I 100 1) (e23 : M' 100 23 = M 100 23) (e24 : M' 100 24 = M 100 24) : RM I' M' := by
  unfold RM
  rw [e0, e1, e23, e24]
  exact h
theorem mP_fr (e : ∀ k, 30 ≤ k → k < 35 → M' 100 k = M 100 k) {c f m : Nat} (hf : f < 5) : mP M' c f m = mP M c f m := by
  show M' 100 (30 + f) _ = M 100 (30 + f) _
  rw [e (30 + f) (by omega) (by omega)]
theorem mN_fr (e29 : M' 100 29 = M 100 29) {c : Nat} : mN M' c = mN M c := by
  unfold mN
  rw [e29]
theorem RC_fr (h : RC I M) (e1 : ∀ c, c < 8 → I' 1 (40 + c) = I 1 (40 + c)) (e5 : ∀ c, c < 8 → ∀ m, m < 4 → I' 5 (4 * (40 + c) + m) = I 5 (4 * (40 + c) + m)) (hn : VC M) (e : ∀ k, 27 ≤ k → k < 35 → M' 100 k = M 100 k) : RC I' M' := by
  intro c hc
  have n5 : mN M c < 5 := (hn c hc).2.1.2
  obtain ⟨h1, h2, h3, h4⟩ := h c hc
  rw [e1 c hc, e 27 (by omega) (by omega), e 28 (by omega) (by omega), e 29 (by omega) (by omega)]
  refine ⟨h1, h2, h3, fun m hm f hf => ?_⟩
  rw [mN_fr (e 29 (by omega) (by omega))] at hm
  rw [mP_fr (fun k a b => e k (by omega) (by omega)) hf, e5 c hc m (by omega)]
  exact h4 m hm f hf
theorem RG_fr (h : RG I M) (e2 : I' 100 2 = I 100 2) (e : ∀ k, 29 ≤ k → k < 36 → M' 100 k = M 100 k) (e27 : ∀ c, c < 8 → (bsy (M' 100 27 c) → bsy (M 100 27 c))) : RG I' M' := by
  intro c hc hb m hm
  rw [mN_fr (e 29 (by omega) (by omega))] at hm
  have : mB M' c m = mB M c m := by
    unfold mB
    rw [e 35 (by omega) (by omega)]
  rw [this, e2, mP_fr (fun k a b => e k (by omega) (by omega)) (by decide)]
  exact h c hc (e27 c hc hb) m hm
theorem RH_fr (h : RH I M) (e0 : I' 101 0 = I 101 0) (e4 : M' 101 4 = M 101 4) : RH I' M' := by
  intro s hs
  rw [e0, e4]
  exact h s hs
theorem RJ_fr (h : RJ I M) (e3 : I' 3 = I 3) (e7 : I' 7 0 11 = I 7 0 11) (e1 : ∀ k, k < 40 → I' 1 k = I 1 k) (e5 : ∀ k, k < 160 → I' 5 k = I 5 k) (e6 : I' 100 6 = I 100 6) (hv : VJ I M) (e31 : M' 8 0 31 = M 8 0 31) (e32 : M' 8 0 32 = M 8 0 32) (e36 : M' 100 36 = M 100 36) (e37 : M' 100 37 = M 100 37) : RJ I' M' := by
  have ej : ∀ k, jpo I' M' k = jpo I M k := fun k => by
    unfold jpo
    rw [e3, e31]
  have jl : ∀ k, jpo I M k < 40 := fun k => Nat.mod_lt _ (by decide)
  refine ⟨by rw [e3, e31]; exact h.1, by rw [e7, e32]; exact h.2.1, fun k hk => ?_⟩
  rw [e31] at hk
  obtain ⟨a1, a2, a3, a4⟩ := h.2.2 k hk
  have n5 : nn (M 100 36 (23 * k + 1)) < 5 := (hv.2.2.2 k hk).2.2.1.2
  rw [ej, e6, e36, e37, e1 _ (jl k)]
  refine ⟨a1, a2, a3, fun m hm f hf => ?_⟩
  have := jl k
  rw [e5 _ (by omega)]
  exact a4 m hm f hf
theorem VD_fr (h : VD M) (e10 : M' 100 10 = M 100 10) (e11 : M' 100 11 = M 100 11) (e12 : M' 100 12 = M 100 12) (e14 : M' 100 14 = M 100 14) (e16 : M' 100 16 = M 100 16) (e1 : M' 101 1 = M 101 1) (e3 : M' 101 3 = M 101 3) : VD M' := by
  intro p hp
  unfold mdOk
  rw [e10, e11, e12, e14, e16, e1, e3]
  exact h p hp
theorem VP_fr (h : VP M) (e23 : M' 100 23 = M 100 23) (e24 : M' 100 24 = M 100 24) (e25 : M' 100 25 = M 100 25) (e3 : M' 101 3 = M 101 3) (e10 : M' 100 10 = M 100 10) : VP M' := by
  intro p hp
  rw [e23, e24, e25, e3, e10]
  exact h p hp
theorem VB_fr (h : VB M) (e : ∀ k, 18 ≤ k → k < 23 → M' 100 k = M 100 k) : VB M' := by
  intro p hp
  rw [e 18 (by omega) (by omega), e 19 (by omega) (by omega), e 20 (by omega) (by omega), e 21 (by omega) (by omega), e 22 (by omega) (by omega)]
  exact h p hp
theorem pnOk_cg {P P' : Nat → Nat → Int32} {n : Nat} (e : ∀ f m, f < 5 → m < n → P' f m = P f m) (h : pnOk P n) : pnOk P' n := by
  intro m hm
  obtain ⟨h1, h2, h3, h4, h5⟩ := h m hm
  rw [e 0 m (by decide) hm, e 1 m (by decide) hm, e 2 m (by decide) hm, e 3 m (by decide) hm]
  refine ⟨h1, h2, h3, h4, fun j hj q => ?_⟩
  rw [e 0 j (by decide) hj] at q
  exact h5 j hj q
theorem VC_fr (h : VC M) (e : ∀ k, 28 ≤ k → k < 35 → M' 100 k = M 100 k) : VC M' := by
  intro c hc
  obtain ⟨h1, h2, h3⟩ := h c hc
  rw [e 28 (by omega) (by omega), e 29 (by omega) (by omega), mN_fr (e 29 (by omega) (by omega))]
  exact ⟨h1, h2, pnOk_cg (fun f m hf _ => mP_fr (fun k a b => e k (by omega) (by omega)) hf) h3⟩
theorem VA_fr (h : VA M) (e : ∀ k, 29 ≤ k → k < 36 → M' 100 k = M 100 k) (e23 : M' 100 23 = M 100 23) (e24 : M' 100 24 = M 100 24) (e25 : M' 100 25 = M 100 25) (e3 : M' 101 3 = M 101 3) (e27 : ∀ c, c < 8 → (bsy (M' 100 27 c) → bsy (M 100 27 c))) : VA M' := by
  intro c hc hb m hm
  have eP : ∀ c f m, f < 5 → mP M' c f m = mP M c f m := fun c f m hf => mP_fr (fun k a b => e k (by omega) (by omega)) hf
  have eN : ∀ c, mN M' c = mN M c := fun c => mN_fr (e 29 (by omega) (by omega))
  rw [eN] at hm
  obtain ⟨h1, h2, h3, h4⟩ := h c hc (e27 c hc hb) m hm
  have : mB M' c m = mB M c m := by
    unfold mB
    rw [e 35 (by omega) (by omega)]
  rw [this, eP c 0 m (by decide), eP c 1 m (by decide), e23, e24, e25, e3]
  refine ⟨h1, h2, h3, fun d hd hbd j hj q => ?_⟩
  rw [eN] at hj
  rw [eP d 0 j (by decide)] at q
  exact h4 d hd (e27 d hd hbd) j hj q
theorem VS_fr (h : VS M) (e : ∀ k, 29 ≤ k → k < 35 → M' 100 k = M 100 k) (e24 : M' 100 24 = M 100 24) (e27 : ∀ c, c < 8 → (bsy (M 100 27 c) → bsy (M' 100 27 c))) : VS M' := by
  intro p hp q
  rw [e24]
  refine h p hp fun c hc hb m hm => ?_
  have := q c hc (e27 c hc hb) m (by rw [mN_fr (e 29 (by omega) (by omega))]; exact hm)
  rw [mP_fr (fun k a b => e k (by omega) (by omega)) (by decide)] at this
  exact this
theorem VJ_fr (h : VJ I M) (e3 : I' 3 = I 3) (e1 : ∀ k, k < 40 → I' 1 k = I 1 k) (e6 : I' 100 6 = I 100 6) (e31 : M' 8 0 31 = M 8 0 31) (e36 : M' 100 36 = M 100 36) (e37 : M' 100 37 = M 100 37) : VJ I' M' := by
  unfold VJ
  rw [e3, e6, e31, e36, e37]
  refine ⟨h.1, h.2.1, fun k hk => ?_, h.2.2.2⟩
  rw [e1 k hk]
  exact h.2.2.1 k hk
end RL
