/-! the class: unhang, clearReason, rehearse -/
section LH
variable {l : Launch} {Q : rf_O → rf_S → Prop} {L : Nat} {I : Nat → Nat → Nat → Int32} {J : Nat → Nat → Nat → Int64} {σ : rf_S}
/-- no drive has the piece, of the first k -/
def uhI (I : Nat → Nat → Nat → Int32) (p : Int32) (k : Nat) : Nat → Nat → Nat → Int32 := fun b i f => if b = 2 ∧ i < k ∧ f = 0 ∧ I 2 i 0 = p then -1 else I b i f
theorem uhI_0 {p : Int32} : uhI I p 0 = I := by
  funext b i f
  have : ¬ (b = 2 ∧ i < 0 ∧ f = 0 ∧ I 2 i 0 = p) := fun q => absurd q.2.1 (by omega)
  rw [uhI, if_neg this]
theorem uhI_k {p : Int32} {k : Nat} : uhI I p k 2 k 0 = I 2 k 0 := by
  have : ¬ ((2 : Nat) = 2 ∧ k < k ∧ (0 : Nat) = 0 ∧ I 2 k 0 = p) := fun q => absurd q.2.1 (by omega)
  rw [uhI, if_neg this]
theorem uhI_y {p : Int32} {k : Nat} (h : I 2 k 0 = p) : rf_u3 (uhI I p k) 2 k 0 (-1) = uhI I p (k + 1) := by
  funext b i f
  by_cases h1 : b = 2 ∧ i = k ∧ f = 0
  · obtain ⟨rfl, rfl, rfl⟩ := h1
    rw [rf_u3, if_pos ⟨rfl, rfl, rfl⟩, uhI, if_pos ⟨rfl, by omega, rfl, h⟩]
  · rw [rf_u3, if_neg h1]
    by_cases h2 : b = 2 ∧ i < k ∧ f = 0 ∧ I 2 i 0 = p
    · rw [uhI, if_pos h2, uhI, if_pos ⟨h2.1, by omega, h2.2.2⟩]
    · rw [uhI, if_neg h2, uhI, if_neg fun q => h2 ⟨q.1, by have : ¬ i = k := fun e => h1 ⟨q.1, e, q.2.2.1⟩
                                                           omega, q.2.2⟩]
theorem uhI_n {p : Int32} {k : Nat} (h : ¬ I 2 k 0 = p) : uhI I p (k + 1) = uhI I p k := by
  funext b i f
  by_cases h2 : b = 2 ∧ i < k ∧ f = 0 ∧ I 2 i 0 = p
  · rw [uhI, if_pos ⟨h2.1, by omega, h2.2.2⟩, uhI, if_pos h2]
  · rw [uhI, if_neg fun q => h2 ⟨q.1, by have : ¬ i = k := fun e => h (e ▸ q.2.2.2)
                                         omega, q.2.2⟩, uhI, if_neg h2]
def unC (I : Nat → Nat → Nat → Int32) (p : Int32) : Prop := ¬ I 6 (nn p) 1 = 0 ∧ I 100 0 (nn p) = 0 ∧ ∀ c, c < 8 → ¬ bz I p c
theorem c_unhang {p : Int32} (hn : ∀ c, c < 8 → ok (I 1 (40 + c) 1) 5) (h0 : ¬ ok p 6 → Q (.inr 0) (sS L I J)) (h2 : ok p 6 → ¬ unC I p → Q (.inr 2) (sS L I J))
    (hq : ok p 6 → unC I p → Q (.inl none) (sS L (uhI (rf_u3 (rf_u3 I 6 (nn p) 1 0) 6 (nn p) 4 0) p 12) J)) : rf_C l 38 [.inr (.inr (some (7, 0))), .inl p] (sS L I J) Q := by
  apply rf_C.ofW
  refine rf_goW rf_mo_38 rf_T_38 60 [69] (And.intro ⟨by decide, by decide⟩ (c_checkIx (n := 6) (by decide) (fun a1 => And.intro a1 (And.intro (fun e => And.intro ⟨by decide, by decide⟩ (ks0 (h2 a1 fun q => q.1 e))) (fun e => And.intro a1 (And.intro (fun f => And.intro ⟨by decide, by decide⟩ (ks0 (h2 a1 fun q => f q.2.1))) (fun f => And.intro ⟨by decide, by decide⟩ (c_busyCueOf hn (fun c hc hb _ => And.intro (fun g => And.intro ⟨by decide, by decide⟩ (ks0 (h2 a1 fun q => q.2.2 c hc hb))) (fun g => absurd g ?_)) (fun hb => And.intro (fun g => absurd rfl g) (fun _ => And.intro ⟨by decide, by decide⟩ (ks1 (And.intro a1 (And.intro (Or.inl rfl) (And.intro a1 ?_)))))))))))) h0))
  · have : c = 0 ∨ c = 1 ∨ c = 2 ∨ c = 3 ∨ c = 4 ∨ c = 5 ∨ c = 6 ∨ c = 7 := by omega
    rcases this with rfl | rfl | rfl | rfl | rfl | rfl | rfl | rfl <;> decide
  have hq' := hq a1 ⟨e, f, hb⟩
  have key : ∀ k, k ≤ 12 → rf_W l 38 69 [some (.inr (.inr (some (7, 0)))), some (.inl p), some (.inl (Int32.ofNat k))] [] (sS L (uhI (rf_u3 (rf_u3 I 6 (nn p) 1 0) 6 (nn p) 4 0) p k) J) 2 12 Q := by
    refine lp_dn ?_ ?_
    · exact rf_goW rf_mo_38 rf_T_38 60 [69] (And.intro (fun _ => hq') (fun hd => absurd (Int32.le_refl _) hd))
    · intro k hk ih
      rw [← nt_succ k] at ih
      refine rf_goW rf_mo_38 rf_T_38 60 [69] (And.intro (fun hd => absurd ((nt_le (i := 12) (by omega) (by omega)).mp hd) (by omega)) (fun _ => And.intro (nt_ix (n := 12) hk (by decide)) ?_))
      rw [nt_cl (by omega)]
      refine And.intro (fun g => ?_) (fun g => And.intro (nt_ix (n := 12) hk (by decide)) ?_)
      · have g' : ¬ (rf_u3 (rf_u3 I 6 (nn p) 1 0) 6 (nn p) 4 0) 2 k 0 = p := fun q => g (uhI_k.trans q)
        rw [uhI_n g'] at ih
        exact ih
      · have g' : (rf_u3 (rf_u3 I 6 (nn p) 1 0) 6 (nn p) 4 0) 2 k 0 = p := uhI_k.symm.trans g
        rw [← uhI_y g'] at ih
        rw [nt_cl (by omega)]
        exact ih
  have k0 := key 0 (by omega)
  rw [uhI_0] at k0
  exact k0
/-- its reason goes, its master stands where its lowest drive is -/
noncomputable def crC (I : Nat → Nat → Nat → Int32) (p : Int32) : Prop := ¬ I 6 (nn p) 1 = 0 ∧ ¬ I 6 (nn p) 4 = 0 ∧ rsF I p (lowF (dP I) (dA I) p 12) = 0
theorem c_clearReason {p : Int32} (hd : ∀ h, h < 12 → ¬ I 2 h 0 = -1 → ok (I 2 h 0) 6) (hx : ¬ ok p 6 → Q (.inr 0) (sS L I J)) (h0 : ok p 6 → ¬ crC I p → Q (.inl (some (.inl 0))) (sS L I J))
    (hq : ok p 6 → crC I p → Q (.inl (some (.inl 1))) (sS L (ms2 (rf_u3 I 6 (nn p) 4 0) 0 (uf (I 100 0) (nn p) (lowF (dP I) (dA I) p 12)) (uf (I 100 1) (nn p) 0)) J)) : rf_C l 145 [.inr (.inr (some (7, 0))), .inl p] (sS L I J) Q := by
  apply rf_C.ofW
  refine rf_goW rf_mo_145 rf_T_145 60 [] (And.intro ⟨by decide, by decide⟩ (c_checkIx (n := 6) (by decide) (fun a1 => And.intro a1 (And.intro (fun e => And.intro (Or.inl rfl) (h0 a1 fun q => q.1 e)) (fun e => And.intro a1 (And.intro (fun f => And.intro ⟨by decide, by decide⟩ (c_lowestDrive (And.intro ⟨by decide, by decide⟩ (c_reasonWithMasterAt a1 hd (fun x hx => And.intro (fun g => ?_) (fun g => And.intro (Or.inl rfl) (h0 a1 fun q => g ((rsn_F hx).trans q.2.2)))))))) (fun f => And.intro (Or.inl rfl) (h0 a1 fun q => q.2.1 f)))))) hx))
  have hq' := hq a1 ⟨e, f, (rsn_F hx).symm.trans g⟩
  refine And.intro a1 (And.intro ⟨by decide, by decide⟩ (c_putAt (I := rf_u3 I 6 (nn p) 4 0) (i := 0) (by decide) a1 (And.intro (Or.inr rfl) ?_)))
  refine eqS (Q := Q) ?_ hq'
  rw [u3_b (by decide)]
  rfl
/-- where the moves begin: the row of pieces -/
def bgF (P a b : Nat → Int32) : Nat → Nat → Int32
  | 0 => b
  | m + 1 => uf (bgF P a b m) (nn (P m)) (a (nn (P m)))
theorem c_beginHere {i c : Nat} (hi : i < 2) (hn : ok (I 1 c 1) 5) (hp : ∀ j, j < nn (I 1 c 1) → ok (I 5 (4 * c + j) 0) 6)
    (hq : Q (.inl none) (sS L (ro I 100 (3 * i + 2) (bgF (pP I c 0) (I 100 (3 * i)) (I 100 (3 * i + 2)) (nn (I 1 c 1)))) J)) : rf_C l 73 [.inr (.inr (some (4, i))), .inr (.inr (some (1, c)))] (sS L I J) Q := by
  apply rf_C.ofW
  refine rf_goW rf_mo_73 rf_T_73 3 [2] ?_
  have hb : nn (I 1 c 1) < 5 := hn.2
  have key : ∀ m, m ≤ nn (I 1 c 1) → rf_W l 73 2 [some (.inr (.inr (some (4, i)))), some (.inr (.inr (some (1, c)))), some (.inl (Int32.ofNat m)), none] [] (sS L (ro I 100 (3 * i + 2) (bgF (pP I c 0) (I 100 (3 * i)) (I 100 (3 * i + 2)) m)) J) 0 0 Q := by
    refine lp_dn ?_ ?_
    · refine rf_goW rf_mo_73 rf_T_73 60 [2] (And.intro (fun _ => hq) (fun hd => absurd ?_ hd))
      show ro I 100 (3 * i + 2) (bgF (pP I c 0) (I 100 (3 * i)) (I 100 (3 * i + 2)) (nn (I 1 c 1))) 1 c 1 ≤ _
      rw [ro_b (by decide)]
      exact (nn_le hn.1 (by omega)).mpr (Nat.le_refl _)
    · intro m hm ih
      rw [← nt_succ m] at ih
      have e5 : ro I 100 (3 * i + 2) (bgF (pP I c 0) (I 100 (3 * i)) (I 100 (3 * i + 2)) m) 5 = I 5 := ro_b (by decide)
      have ea : ro I 100 (3 * i + 2) (bgF (pP I c 0) (I 100 (3 * i)) (I 100 (3 * i + 2)) m) 100 (3 * i) = I 100 (3 * i) := ro_ne (by omega)
      refine rf_goW rf_mo_73 rf_T_73 60 [2] (And.intro (fun hd => absurd (show ro I 100 (3 * i + 2) (bgF (pP I c 0) (I 100 (3 * i)) (I 100 (3 * i + 2)) m) 1 c 1 ≤ Int32.ofNat m from hd) ?_) (fun _ => And.intro (nt_ix (n := 4) (by omega) (by decide)) ?_))
      · rw [ro_b (by decide)]
        exact fun hd => absurd ((nn_le hn.1 (by omega)).mp hd) (by omega)
      rw [nt_cl (by omega)]
      have op : ok (ro I 100 (3 * i + 2) (bgF (pP I c 0) (I 100 (3 * i)) (I 100 (3 * i + 2)) m) 5 (4 * c + m) 0) 6 := by rw [e5]; exact hp m hm
      refine And.intro (ms_ix hi (by decide) op) (And.intro (ms_ix hi (by decide) op) ?_)
      have es : rf_u3 (ro I 100 (3 * i + 2) (bgF (pP I c 0) (I 100 (3 * i)) (I 100 (3 * i + 2)) m)) 100 (3 * i + 2) (nn (ro I 100 (3 * i + 2) (bgF (pP I c 0) (I 100 (3 * i)) (I 100 (3 * i + 2)) m) 5 (4 * c + m) 0)) (ro I 100 (3 * i + 2) (bgF (pP I c 0) (I 100 (3 * i)) (I 100 (3 * i + 2)) m) 100 (3 * i) (nn (ro I 100 (3 * i + 2) (bgF (pP I c 0) (I 100 (3 * i)) (I 100 (3 * i + 2)) m) 5 (4 * c + m) 0))) = ro I 100 (3 * i + 2) (bgF (pP I c 0) (I 100 (3 * i)) (I 100 (3 * i + 2)) (m + 1)) := by
        rw [e5, ea, u3_ro, ro_self, ro_ro]
        rfl
      rw [← es] at ih
      exact fgt ih (by repeat (first | exact True.intro | refine And.intro rfl ?_))
  have k0 := key 0 (by omega)
  rw [bgF, ro_id] at k0
  exact k0
/-- the first k of one row, the rest of another -/
def slR (g r : Nat → Int32) (k : Nat) : Nat → Int32 := fun f => if f < k then g f else r f
theorem slR_0 {g r : Nat → Int32} : slR g r 0 = r := by
  funext f
  have : ¬ f < 0 := by omega
  rw [slR, if_neg this]
theorem slR_s {g r : Nat → Int32} {k : Nat} : uf (slR g r k) k (g k) = slR g r (k + 1) := by
  funext f
  by_cases h : f = k
  · subst h
    rw [uf, if_pos rfl, slR, if_pos (by omega)]
  · rw [uf, if_neg h]
    by_cases h2 : f < k
    · rw [slR, if_pos h2, slR, if_pos (by omega)]
    · rw [slR, if_neg h2, slR, if_neg (by omega)]
theorem c_standLike (hq : Q (.inl none) (sS L (ms2 I 1 (slR (I 100 0) (I 100 3) 6) (slR (fun _ => 0) (I 100 4) 6)) J)) : rf_C l 160 [.inr (.inr (some (4, 1))), .inr (.inr (some (4, 0)))] (sS L I J) Q := by
  apply rf_C.ofW
  refine rf_goW rf_mo_160 rf_T_160 3 [2] ?_
  have key : ∀ k, k ≤ 6 → rf_W l 160 2 [some (.inr (.inr (some (4, 1)))), some (.inr (.inr (some (4, 0)))), some (.inl (Int32.ofNat k))] [] (sS L (ms2 I 1 (slR (I 100 0) (I 100 3) k) (slR (fun _ => 0) (I 100 4) k)) J) 0 0 Q := by
    refine lp_dn ?_ ?_
    · exact rf_goW rf_mo_160 rf_T_160 60 [2] (And.intro (fun _ => hq) (fun hd => absurd (Int32.le_refl _) hd))
    · intro k hk ih
      rw [← nt_succ k] at ih
      refine rf_goW rf_mo_160 rf_T_160 60 [2] (And.intro (fun hd => absurd ((nt_le (i := 6) (by omega) (by omega)).mp hd) (by omega)) (fun _ => And.intro (nt_ix (n := 6) hk (by decide)) (And.intro ⟨by decide, by decide⟩ (c_putAt (i := 1) (by decide) (nt_ix (n := 6) hk (by decide)) ?_))))
      rw [ms2_2, nn_nat (by omega), nt_cl (by omega)]
      have e0 : (sS L (ms2 I 1 (slR (I 100 0) (I 100 3) k) (slR (fun _ => 0) (I 100 4) k)) J).2.2.1 100 (3 * 0 + 0) k = I 100 0 k := by
        show ms2 I 1 (slR (I 100 0) (I 100 3) k) (slR (fun _ => 0) (I 100 4) k) 100 0 k = _
        rw [ms2_o (by decide) (by decide)]
      have es : uf (slR (fun _ => 0) (I 100 4) k) k 0 = slR (fun _ => 0) (I 100 4) (k + 1) := slR_s (g := fun _ => 0)
      rw [ms2_a, ms2_v, e0, slR_s, es]
      exact ih
  have k0 := key 0 (by omega)
  rw [slR_0, slR_0] at k0
  have : ms2 I 1 (I 100 3) (I 100 4) = I := ms2_id (i := 1)
  rw [this] at k0
  exact k0
end LH
