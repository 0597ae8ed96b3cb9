/-! the pieces are watched; a tick of the class -/
section LW
variable {l : Launch} {Q : rf_O → rf_S → Prop} {L : Nat} {I : Nat → Nat → Nat → Int32} {J : Nat → Nat → Nat → Int64}
/-- the first of so many -/
noncomputable def fnd (B : Nat → Prop) : Nat → Option Nat
  | 0 => none
  | n + 1 => match fnd B n with
    | some c => some c
    | none => cif (B n) (some n) none
theorem fnd_none {B : Nat → Prop} : ∀ {n : Nat}, (∀ c, c < n → ¬ B c) → fnd B n = none
  | 0, _ => rfl
  | n + 1, h => by rw [fnd, fnd_none fun c hc => h c (by omega)]; exact cif_f (h n (by omega))
theorem fnd_some {B : Nat → Prop} {c : Nat} (hb : B c) (hj : ∀ j, j < c → ¬ B j) : ∀ {n : Nat}, c < n → fnd B n = some c
  | 0, h => absurd h (by omega)
  | n + 1, h => by
    by_cases e : c = n
    · subst e
      rw [fnd, fnd_none hj]
      exact cif_t hb
    · rw [fnd, fnd_some hb hj (show c < n by omega)]
theorem fnd_inv {B : Nat → Prop} : ∀ {n : Nat}, (fnd B n = none ∧ ∀ c, c < n → ¬ B c) ∨ ∃ c, c < n ∧ B c ∧ (∀ j, j < c → ¬ B j) ∧ fnd B n = some c
  | 0 => Or.inl ⟨rfl, fun _ h => absurd h (by omega)⟩
  | n + 1 => by
    rcases fnd_inv (B := B) (n := n) with ⟨h1, h2⟩ | ⟨c, h1, h2, h3, h4⟩
    · by_cases hb : B n
      · exact Or.inr ⟨n, by omega, hb, h2, fnd_some hb h2 (by omega)⟩
      · refine Or.inl ⟨fnd_none ?_, ?_⟩ <;>
        · intro c hc
          by_cases e : c = n
          · rw [e]; exact hb
          · exact h2 c (by omega)
    · exact Or.inr ⟨c, by omega, h2, h3, fnd_some h2 h3 (by omega)⟩
/-- the reason of a piece, as a value -/
noncomputable def rsV (b w : Prop) (hi lo a : Int32) : Int32 := cif b 1 (cif (20 < hi - a ∨ 20 < a - lo) 2 (cif (15 < hi - lo) 3 (cif w 4 0)))
noncomputable def rsF (I : Nat → Nat → Nat → Int32) (p a : Int32) : Int32 := rsV (∃ i, i < 12 ∧ hbd I p i) (∃ i, i < 12 ∧ wld I p i) (hghF (dP I) (dA I) p 12) (lowF (dP I) (dA I) p 12) a
theorem rsn_F {p a x : Int32} (h : rsn I p a x) : x = rsF I p a := by
  unfold rsF rsV
  rcases h with ⟨h1, h⟩ | ⟨h1, ⟨h2, h⟩ | ⟨h2, ⟨h3, h⟩ | ⟨h3, ⟨h4, h⟩ | ⟨h4, h⟩⟩⟩⟩
  · rw [cif_t h1]; exact h
  · rw [cif_f h1, cif_t h2]; exact h
  · rw [cif_f h1, cif_f h2, cif_t h3]; exact h
  · rw [cif_f h1, cif_f h2, cif_f h3, cif_t h4]; exact h
  · rw [cif_f h1, cif_f h2, cif_f h3, cif_f h4]; exact h
def bsy (x : Int32) : Prop := x = 1 ∨ x = 2 ∨ x = 3
/-- the reasons of the pieces anew -/
def reI (I : Nat → Nat → Nat → Int32) (q : Nat → Int32) : Nat → Nat → Nat → Int32 := fun b i f => if b = 6 ∧ i < 6 ∧ f = 4 then q i else I b i f
def reQ (I : Nat → Nat → Nat → Int32) : Nat → Int32 := fun p => I 6 p 4
theorem reI_b {b : Nat} {q : Nat → Int32} (h : ¬ b = 6) : reI I q b = I b := by
  funext y f
  simp [reI, h]
theorem reI_f {i f : Nat} {q : Nat → Int32} (h : ¬ f = 4) : reI I q 6 i f = I 6 i f := by simp [reI, h]
theorem reI_x {p : Nat} {q : Nat → Int32} (h : p < 6) : reI I q 6 p 4 = q p := by simp [reI, h]
theorem reI_id : reI I (reQ I) = I := by
  funext b i f
  by_cases h : b = 6 ∧ i < 6 ∧ f = 4
  · obtain ⟨rfl, h2, rfl⟩ := h
    simp [reI, reQ]
  · rw [reI, if_neg h]
theorem reI_u3 {p : Nat} {q : Nat → Int32} {y : Int32} (h : p < 6) : rf_u3 (reI I q) 6 p 4 y = reI I (uf q p y) := by
  funext b i f
  by_cases h1 : b = 6 ∧ i = p ∧ f = 4
  · obtain ⟨rfl, rfl, rfl⟩ := h1
    simp [rf_u3, reI, uf, h]
  · rw [rf_u3, if_neg h1]
    by_cases h2 : b = 6 ∧ i < 6 ∧ f = 4
    · have h3 : ¬ i = p := fun e => h1 ⟨h2.1, e, h2.2.2⟩
      rw [reI, if_pos h2, reI, if_pos h2, uf, if_neg h3]
    · rw [reI, if_neg h2, reI, if_neg h2]
def wsI (I : Nat → Nat → Nat → Int32) (s : (Nat → Int32) × (Nat → Int32) × (Nat → Int32)) : Nat → Nat → Nat → Int32 := ro (stI (reI I s.1) s.2.1) 100 1 s.2.2
theorem wsI_id : wsI I (reQ I, stX I, I 100 1) = I := by
  show ro (stI (reI I (reQ I)) (stX I)) 100 1 (I 100 1) = I
  rw [reI_id, stI_id, ro_id]
theorem wsI_b {b : Nat} {s : (Nat → Int32) × (Nat → Int32) × (Nat → Int32)} (h : ¬ b = 1) (h' : ¬ b = 6) (h'' : ¬ b = 100) : wsI I s b = I b := by rw [wsI, ro_b h'', stI_b h, reI_b h']
theorem wsI_1 {i f : Nat} {s : (Nat → Int32) × (Nat → Int32) × (Nat → Int32)} (h : ¬ f = 3) : wsI I s 1 i f = I 1 i f := by rw [wsI, ro_b (by decide), stI_f h, reI_b (by decide)]
theorem wsI_6 {i f : Nat} {s : (Nat → Int32) × (Nat → Int32) × (Nat → Int32)} (h : ¬ f = 4) : wsI I s 6 i f = I 6 i f := by rw [wsI, ro_b (by decide), stI_b (by decide), reI_f h]
theorem wsI_x {c : Nat} {s : (Nat → Int32) × (Nat → Int32) × (Nat → Int32)} (h : c < 8) : wsI I s 1 (40 + c) 3 = s.2.1 c := by rw [wsI, ro_b (by decide), stI_x h]
theorem wsI_q {p : Nat} {s : (Nat → Int32) × (Nat → Int32) × (Nat → Int32)} (h : p < 6) : wsI I s 6 p 4 = s.1 p := by rw [wsI, ro_b (by decide), stI_b (by decide), reI_x h]
theorem wsI_v {s : (Nat → Int32) × (Nat → Int32) × (Nat → Int32)} : wsI I s 100 1 = s.2.2 := ro_self
theorem wsI_o {k : Nat} {s : (Nat → Int32) × (Nat → Int32) × (Nat → Int32)} (h : ¬ k = 1) : wsI I s 100 k = I 100 k := by rw [wsI, ro_ne (by omega), stI_b (by decide), reI_b (by decide)]
theorem u3_ro' {b i j k b' : Nat} {x : Int32} {g : Nat → Int32} (h : ¬ b = b') : rf_u3 (ro I b' i g) b j k x = ro (rf_u3 I b j k x) b' i g := by
  funext y z f
  by_cases h1 : y = b
  · subst h1
    simp [rf_u3, ro, h]
  · simp [rf_u3, ro, h1]
theorem u3_stI {b j k : Nat} {x : Int32} {g : Nat → Int32} (h : ¬ b = 1) : rf_u3 (stI I g) b j k x = stI (rf_u3 I b j k x) g := by
  funext y z f
  by_cases h1 : y = b
  · subst h1
    simp [rf_u3, stI, h]
  · simp [rf_u3, stI, h1]
theorem wsI_uq {p : Nat} {y : Int32} {s : (Nat → Int32) × (Nat → Int32) × (Nat → Int32)} (h : p < 6) : rf_u3 (wsI I s) 6 p 4 y = wsI I (uf s.1 p y, s.2) := by
  rw [wsI, u3_ro' (by decide), u3_stI (by decide), reI_u3 h]
  rfl
theorem wsI_ux {c : Nat} {y : Int32} {v : Nat → Int32} {s : (Nat → Int32) × (Nat → Int32) × (Nat → Int32)} (h : c < 8) : ro (rf_u3 (wsI I s) 1 (40 + c) 3 y) 100 1 v = wsI I (s.1, uf s.2.1 c y, v) := by
  rw [wsI, u3_ro' (by decide), ro_ro, stI_u3 h]
  rfl
/-- a piece gets its reason; a cue that moves it stops -/
noncomputable def wp2 (r : Int32) (hm : Nat → Prop) (P : Nat → Nat → Int32) (n : Nat → Nat) (s : (Nat → Int32) × (Nat → Int32) × (Nat → Int32)) : (Nat → Int32) × (Nat → Int32) :=
  cif (r = 0) s.2 (match fnd (fun c => bsy (s.2.1 c) ∧ hm c) 8 with
    | none => s.2
    | some c => (uf s.2.1 c 5, stR (P c) s.2.2 (n c)))
noncomputable def wpR (g rs : Nat → Int32) (hm : Nat → Nat → Prop) (P : Nat → Nat → Int32) (n : Nat → Nat) (s : (Nat → Int32) × (Nat → Int32) × (Nat → Int32)) : Nat → (Nat → Int32) × (Nat → Int32) × (Nat → Int32)
  | 0 => s
  | p + 1 => cif (¬ g p = 0 ∧ (wpR g rs hm P n s p).1 p = 0) (uf (wpR g rs hm P n s p).1 p (rs p), wp2 (rs p) (hm p) P n (wpR g rs hm P n s p)) (wpR g rs hm P n s p)
def kM (I : Nat → Nat → Nat → Int32) (p c : Nat) : Prop := hasMv I (40 + c) (Int32.ofNat p)
def kQ (I : Nat → Nat → Nat → Int32) (c : Nat) : Nat → Int32 := pP I (40 + c) 0
def kG (I : Nat → Nat → Nat → Int32) (p : Nat) : Int32 := I 6 p 1
noncomputable def kR (I : Nat → Nat → Nat → Int32) (p : Nat) : Int32 := rsF I (Int32.ofNat p) (I 100 0 p)
/-- what the reasons hang on -/
theorem rsF_congr {I' : Nat → Nat → Nat → Int32} {p a : Int32} (h2 : I' 2 = I 2) (h62 : ∀ p, I' 6 p 2 = I 6 p 2) (h63 : ∀ p, I' 6 p 3 = I 6 p 3) : rsF I' p a = rsF I p a := by
  unfold rsF hbd wld lod lea dP dA
  simp only [h2, h62, h63]
theorem c_watchPiece {p : Nat} {s : (Nat → Int32) × (Nat → Int32) × (Nat → Int32)} (hp : p < 6) (hc : ∀ c, c < 8 → plOk I (40 + c)) (hd : ∀ h, h < 12 → ¬ I 2 h 0 = -1 → ok (I 2 h 0) 6)
    (hq : Q (.inl none) (sS L (wsI I (uf s.1 p (kR I p), wp2 (kR I p) (kM I p) (kQ I) (kN I) s)) J)) : rf_C l 125 [.inr (.inr (some (7, 0))), .inl (Int32.ofNat p)] (sS L (wsI I s) J) Q := by
  apply rf_C.ofW
  have e2 : wsI I s 2 = I 2 := wsI_b (by decide) (by decide) (by decide)
  refine rf_goW rf_mo_125 rf_T_125 60 [23] (And.intro (nt_ix (n := 6) hp (by decide)) (And.intro (nt_ix (n := 6) hp (by decide)) (And.intro ⟨by decide, by decide⟩ (c_reasonWithMasterAt (I := wsI I s) (nt_ix (n := 6) hp (by decide)) (by rw [e2]; exact hd) (fun x hx => ?_)))))
  rw [nt_cl (by omega)]
  have hx' : x = kR I p := by
    have := rsn_F hx
    rw [rsF_congr e2 (fun q => wsI_6 (by decide)) (fun q => wsI_6 (by decide))] at this
    rw [this]
    show rsF I _ (wsI I s 100 0 _) = _
    rw [wsI_o (by decide), nt_cl (by omega)]
    rfl
  subst hx'
  have go : rf_W l 125 23 [some (.inr (.inr (some (7, 0)))), some (.inl (Int32.ofNat p)), none] [] (sS L (wsI I (uf s.1 p (kR I p), s.2)) J) 0 0 Q := by
    have e1' : ∀ s', wsI I s' 5 = I 5 := fun s' => wsI_b (by decide) (by decide) (by decide)
    have eb : ∀ c, c < 8 → (bz (wsI I (uf s.1 p (kR I p), s.2)) (Int32.ofNat p) c ↔ bsy (s.2.1 c) ∧ kM I p c) := by
      intro c hc8
      unfold bz busy hasMv
      rw [e1', wsI_x hc8, wsI_1 (by decide)]
      exact Iff.rfl
    refine rf_goW rf_mo_125 rf_T_125 60 [] (And.intro (nt_ix (n := 6) hp (by decide)) ?_)
    rw [nt_cl (by omega)]
    have eq : (sS L (wsI I (uf s.1 p (kR I p), s.2)) J).2.2.1 6 p 4 = kR I p := by
      show wsI I (uf s.1 p (kR I p), s.2) 6 p 4 = _
      rw [wsI_q hp]
      simp [uf]
    refine And.intro (fun hz => ?_) (fun hz => ?_)
    · have hz' : kR I p = 0 := eq.symm.trans hz
      rw [wp2, cif_t hz'] at hq
      exact hq
    · have hz' : ¬ kR I p = 0 := fun q => hz (eq.trans q)
      rw [wp2, cif_f hz'] at hq
      refine And.intro ⟨by decide, by decide⟩ (c_busyCueOf (fun c hc8 => by rw [wsI_1 (by decide)]; exact (hc c hc8).1) (fun c hc8 hb hj => ?_) (fun hb => ?_))
      · have hf : fnd (fun c => bsy (s.2.1 c) ∧ kM I p c) 8 = some c := fnd_some ((eb c hc8).mp hb) (fun j hjc q => hj j hjc ((eb j (by omega)).mpr q)) hc8
        rw [hf] at hq
        refine And.intro (fun he => absurd he ?_) (fun _ => And.intro (nt_ix (n := 8) hc8 (by decide)) ?_)
        · have : c = 0 ∨ c = 1 ∨ c = 2 ∨ c = 3 ∨ c = 4 ∨ c = 5 ∨ c = 6 ∨ c = 7 := by omega
          rcases this with rfl | rfl | rfl | rfl | rfl | rfl | rfl | rfl <;> decide
        · rw [nt_cl (by omega)]
          refine And.intro ⟨by decide, by decide⟩ (c_stopCue (by rw [wsI_1 (by decide)]; exact (hc c hc8).1) (fun j hj => by rw [wsI_1 (by decide)] at hj; rw [e1']; exact ((hc c hc8).2 j hj).1) ?_)
          refine eqS (Q := Q) ?_ hq
          rw [wsI_ux hc8, wsI_v, wsI_1 (by decide)]
          unfold pP
          rw [e1']
          rfl
      · have hf : fnd (fun c => bsy (s.2.1 c) ∧ kM I p c) 8 = none := fnd_none fun c hc8 q => hb c hc8 ((eb c hc8).mpr q)
        rw [hf] at hq
        exact And.intro (fun _ => hq) (fun q => absurd rfl q)
  rw [← wsI_uq hp] at go
  exact go
theorem c_watchPieces (hc : ∀ c, c < 8 → plOk I (40 + c)) (hd : ∀ h, h < 12 → ¬ I 2 h 0 = -1 → ok (I 2 h 0) 6)
    (hq : ∀ s, s = wpR (kG I) (kR I) (kM I) (kQ I) (kN I) (reQ I, stX I, I 100 1) 6 → Q (.inl none) (sS L (wsI I s) J)) : rf_C l 126 [.inr (.inr (some (7, 0)))] (sS L I J) Q := by
  apply rf_C.ofW
  refine rf_goW rf_mo_126 rf_T_126 3 [2] ?_
  have key : ∀ p, p ≤ 6 → ∀ s, s = wpR (kG I) (kR I) (kM I) (kQ I) (kN I) (reQ I, stX I, I 100 1) p → rf_W l 126 2 [some (.inr (.inr (some (7, 0)))), some (.inl (Int32.ofNat p))] [] (sS L (wsI I s) J) 0 0 Q := by
    refine lp_dn ?_ ?_
    · intro s hs
      exact rf_goW rf_mo_126 rf_T_126 60 [2] (And.intro (fun _ => hq s hs) (fun hd => absurd (Int32.le_refl _) hd))
    · intro p hp ih s hs
      rw [← nt_succ p] at ih
      refine rf_goW rf_mo_126 rf_T_126 60 [2] (And.intro (fun hd => absurd ((nt_le (i := 6) (by omega) (by omega)).mp hd) (by omega)) (fun _ => And.intro (nt_ix (n := 6) hp (by decide)) ?_))
      rw [nt_cl (by omega)]
      have eg : wsI I s 6 p 1 = kG I p := wsI_6 (by decide)
      have eq : wsI I s 6 p 4 = s.1 p := wsI_q hp
      refine And.intro (fun hg => ih s ?_) (fun hg => And.intro (nt_ix (n := 6) hp (by decide)) ?_)
      · rw [wpR, ← hs, cif_f (fun q => q.1 (eg.symm.trans hg))]
      rw [nt_cl (by omega)]
      refine And.intro (fun hr => ih s ?_) (fun hr => And.intro ⟨by decide, by decide⟩ (c_watchPiece hp hc hd (ih _ ?_)))
      · rw [wpR, ← hs, cif_f (fun q => hr (eq.trans q.2))]
      · rw [wpR, ← hs, cif_t ⟨fun q => hg (eg.trans q), eq.symm.trans hr⟩]
  have k0 := key 0 (by omega) _ rfl
  rw [wpR, wsI_id] at k0
  exact k0
end LW
