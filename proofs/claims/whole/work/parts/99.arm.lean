/-! the class: how far the pieces could get -/
section LAR
variable {l : Launch} {Q : rf_O → rf_S → Prop} {L : Nat} {I : Nat → Nat → Nat → Int32} {J : Nat → Nat → Nat → Int64} {σ : rf_S}
theorem c_couldGo {c m : Nat} (ha : ¬ I 5 (4 * c + m) 3 = -1 → ok (I 5 (4 * c + m) 3) 4 ∧ ok (I 5 (4 * c + nn (I 5 (4 * c + m) 3)) 0) 6) (h1 : mayG (pP I c) (bgR I 0 c) (I 100 9) m → Q (.inl (some (.inl 1))) (sS L I J)) (h0 : ¬ mayG (pP I c) (bgR I 0 c) (I 100 9) m → Q (.inl (some (.inl 0))) (sS L I J)) : rf_C l 75 [.inr (.inr (some (7, 0))), .inr (.inr (some (1, c))), .inr (.inr (some (5, 4 * c + m)))] (sS L I J) Q := by
  apply rf_C.ofW
  refine rf_goW rf_mo_75 rf_T_75 60 [] (And.intro (fun e => ?_) (fun e => And.intro (Or.inr rfl) (h1 (Or.inl e))))
  obtain ⟨a1, a2⟩ := ha e
  exact And.intro a1 (And.intro a2 (And.intro ⟨by decide, by decide⟩ (c_reached (i := 0) (by decide) a2 (fun r => And.intro (Or.inr rfl) (h1 (Or.inr r))) (fun r => And.intro (Or.inl rfl) (h0 fun q => q.elim e r)))))
/-- three rows: which cue, which move, how far -/
def m3 (I : Nat → Nat → Nat → Int32) (t : (Nat → Int32) × (Nat → Int32) × (Nat → Int32)) : Nat → Nat → Nat → Int32 := ro (ro (ro I 100 7 t.1) 100 8 t.2.1) 100 9 t.2.2
theorem m3_b {b : Nat} {t : (Nat → Int32) × (Nat → Int32) × (Nat → Int32)} (h : ¬ b = 100) : m3 I t b = I b := by rw [m3, ro_b h, ro_b h, ro_b h]
theorem m3_o {k : Nat} {t : (Nat → Int32) × (Nat → Int32) × (Nat → Int32)} (h : k < 7) : m3 I t 100 k = I 100 k := by rw [m3, ro_ne (by omega), ro_ne (by omega), ro_ne (by omega)]
theorem m3_7 {t : (Nat → Int32) × (Nat → Int32) × (Nat → Int32)} : m3 I t 100 7 = t.1 := by rw [m3, ro_ne (by decide), ro_ne (by decide), ro_self]
theorem m3_8 {t : (Nat → Int32) × (Nat → Int32) × (Nat → Int32)} : m3 I t 100 8 = t.2.1 := by rw [m3, ro_ne (by decide), ro_self]
theorem m3_9 {t : (Nat → Int32) × (Nat → Int32) × (Nat → Int32)} : m3 I t 100 9 = t.2.2 := ro_self
theorem m3_id : m3 I (I 100 7, I 100 8, I 100 9) = I := by
  show ro (ro (ro I 100 7 (I 100 7)) 100 8 (I 100 8)) 100 9 (I 100 9) = I
  rw [ro_id, ro_id, ro_id]
theorem m3_u7 {t : (Nat → Int32) × (Nat → Int32) × (Nat → Int32)} {j : Nat} {x : Int32} : rf_u3 (m3 I t) 100 7 j x = m3 I (uf t.1 j x, t.2) := by
  rw [u3_ro, m3_7, m3, ro_comm (I := ro (ro I 100 7 t.1) 100 8 t.2.1) (by decide), ro_comm (I := ro I 100 7 t.1) (by decide), ro_ro]
  rfl
theorem m3_u8 {t : (Nat → Int32) × (Nat → Int32) × (Nat → Int32)} {j : Nat} {x : Int32} : rf_u3 (m3 I t) 100 8 j x = m3 I (t.1, uf t.2.1 j x, t.2.2) := by
  rw [u3_ro, m3_8, m3, ro_comm (I := ro (ro I 100 7 t.1) 100 8 t.2.1) (by decide), ro_ro]
  rfl
theorem m3_u9 {t : (Nat → Int32) × (Nat → Int32) × (Nat → Int32)} {j : Nat} {x : Int32} : rf_u3 (m3 I t) 100 9 j x = m3 I (t.1, t.2.1, uf t.2.2 j x) := by
  rw [u3_ro, m3_9, m3, ro_ro]
  rfl
/-- the moves of one cue, the first m -/
noncomputable def fmR (P : Nat → Nat → Int32) (b : Nat → Int32) (c : Int32) (t : (Nat → Int32) × (Nat → Int32) × (Nat → Int32)) : Nat → (Nat → Int32) × (Nat → Int32) × (Nat → Int32)
  | 0 => t
  | m + 1 => (uf (fmR P b c t m).1 (nn (P 0 m)) c, uf (fmR P b c t m).2.1 (nn (P 0 m)) (Int32.ofNat m), cif (mayG P b (fmR P b c t m).2.2 m) (uf (fmR P b c t m).2.2 (nn (P 0 m)) (P 1 m)) (fmR P b c t m).2.2)
theorem c_findMovesOf {c : Nat} {t : (Nat → Int32) × (Nat → Int32) × (Nat → Int32)} (hc8 : c < 8) (hc : plOk I (40 + c)) (hq : Q (.inl none) (sS L (m3 I (fmR (kP I c) (kB I c) (Int32.ofNat c) t (kN I c))) J)) : rf_C l 76 [.inr (.inr (some (7, 0))), .inl (Int32.ofNat c)] (sS L (m3 I t) J) Q := by
  apply rf_C.ofW
  refine rf_goW rf_mo_76 rf_T_76 3 [2] ?_
  have hb : nn (I 1 (40 + c) 1) < 5 := hc.1.2
  have key : ∀ m, m ≤ kN I c → ∀ r, r = fmR (kP I c) (kB I c) (Int32.ofNat c) t m → rf_W l 76 2 [some (.inr (.inr (some (7, 0)))), some (.inl (Int32.ofNat c)), some (.inl (Int32.ofNat m)), none] [] (sS L (m3 I r) J) 0 0 Q := by
    refine lp_dn ?_ ?_
    · intro r hr
      subst hr
      refine rf_goW rf_mo_76 rf_T_76 60 [2] (And.intro (nt_ix (n := 8) hc8 (by decide)) ?_)
      rw [nt_cl (by omega)]
      refine And.intro (fun _ => hq) (fun hd => absurd ?_ hd)
      show m3 I (fmR (kP I c) (kB I c) (Int32.ofNat c) t (kN I c)) 1 (40 + c) 1 ≤ Int32.ofNat (nn (I 1 (40 + c) 1))
      rw [m3_b (by decide)]
      exact (nn_le hc.1.1 (by omega)).mpr (Nat.le_refl _)
    · intro m hm ih r hr
      have hm' : m < nn (I 1 (40 + c) 1) := hm
      obtain ⟨q0, q2, q3⟩ := hc.2 m hm'
      rw [← nt_succ m] at ih
      have e5 : ∀ r, m3 I r 5 = I 5 := fun r => m3_b (by decide)
      have ep : ∀ r, m3 I r 5 (4 * (40 + c) + m) 0 = kP I c 0 m := fun r => by rw [e5]; rfl
      have eg : ∀ r, m3 I r 5 (4 * (40 + c) + m) 1 = kP I c 1 m := fun r => by rw [e5]; rfl
      have op : ∀ r, ok (m3 I r 5 (4 * (40 + c) + m) 0) 6 := fun r => by rw [e5]; exact q0
      have g74 : ∀ r', r' = fmR (kP I c) (kB I c) (Int32.ofNat c) t (m + 1) → rf_W l 76 74 [some (.inr (.inr (some (7, 0)))), some (.inl (Int32.ofNat c)), some (.inl (Int32.ofNat m)), some (.inr (.inr (some (5, 4 * (40 + c) + m))))] [] (sS L (m3 I r') J) 0 0 Q := fun r' hr' =>
        rf_goW rf_mo_76 rf_T_76 60 [2] (fgt (ih r' hr') (by repeat (first | exact True.intro | refine And.intro rfl ?_)))
      have g47 : ∀ r', r' = (uf r.1 (nn (kP I c 0 m)) (Int32.ofNat c), uf r.2.1 (nn (kP I c 0 m)) (Int32.ofNat m), r.2.2) → rf_W l 76 47 [some (.inr (.inr (some (7, 0)))), some (.inl (Int32.ofNat c)), some (.inl (Int32.ofNat m)), some (.inr (.inr (some (5, 4 * (40 + c) + m))))] [] (sS L (m3 I r') J) 0 0 Q := by
        intro r' hr'
        have mg : mayG (pP (m3 I r') (40 + c)) (bgR (m3 I r') 0 (40 + c)) (m3 I r' 100 9) m ↔ mayG (kP I c) (kB I c) r.2.2 m := by
          have x1 : pP (m3 I r') (40 + c) = kP I c := by unfold pP; rw [e5]; rfl
          have x2 : bgR (m3 I r') 0 (40 + c) = kB I c := by unfold bgR; rw [e5, m3_o (by decide)]; rfl
          rw [x1, x2, m3_9, hr']
        refine rf_goW rf_mo_76 rf_T_76 60 [74] (And.intro (nt_ix (n := 8) hc8 (by decide)) ?_)
        rw [nt_cl (by omega)]
        refine And.intro ⟨by decide, by decide⟩ (c_couldGo (I := m3 I r') ?_ (fun w => br_eq1 ?_) (fun w => br_eq0 (g74 r' ?_)))
        · rw [e5]
          intro hz
          have q := q3 hz
          have q4 : nn (I 5 (4 * (40 + c) + m) 3) < m := q.2
          exact ⟨⟨q.1, by show nn _ < 4; omega⟩, (hc.2 (nn (I 5 (4 * (40 + c) + m) 3)) (by omega)).1⟩
        · have hk : ∀ k x, k = kP I c 0 m → x = kP I c 1 m → rf_W l 76 74 [some (.inr (.inr (some (7, 0)))), some (.inl (Int32.ofNat c)), some (.inl (Int32.ofNat m)), some (.inr (.inr (some (5, 4 * (40 + c) + m))))] [] (sS L (rf_u3 (m3 I r') 100 9 (nn k) x) J) 0 0 Q := by
            rintro _ _ rfl rfl
            rw [m3_u9]
            refine g74 _ ?_
            rw [fmR, ← hr, cif_t (mg.mp w), hr']
          exact And.intro (op r') (hk _ _ (ep r') (eg r'))
        · rw [fmR, ← hr, cif_f (fun q => w (mg.mpr q)), hr']
      have g37 : ∀ r', r' = (uf r.1 (nn (kP I c 0 m)) (Int32.ofNat c), r.2) → rf_W l 76 37 [some (.inr (.inr (some (7, 0)))), some (.inl (Int32.ofNat c)), some (.inl (Int32.ofNat m)), some (.inr (.inr (some (5, 4 * (40 + c) + m))))] [] (sS L (m3 I r') J) 0 0 Q := by
        intro r' hr'
        have hk : ∀ k, k = kP I c 0 m → rf_W l 76 47 [some (.inr (.inr (some (7, 0)))), some (.inl (Int32.ofNat c)), some (.inl (Int32.ofNat m)), some (.inr (.inr (some (5, 4 * (40 + c) + m))))] [] (sS L (rf_u3 (m3 I r') 100 8 (nn k) (Int32.ofNat m)) J) 0 0 Q := by
          rintro _ rfl
          rw [m3_u8]
          refine g47 _ ?_
          rw [hr']
        exact rf_goW rf_mo_76 rf_T_76 60 [47] (And.intro (op r') (hk _ (ep r')))
      have hk : ∀ k, k = kP I c 0 m → rf_W l 76 37 [some (.inr (.inr (some (7, 0)))), some (.inl (Int32.ofNat c)), some (.inl (Int32.ofNat m)), some (.inr (.inr (some (5, 4 * (40 + c) + m))))] [] (sS L (rf_u3 (m3 I r) 100 7 (nn k) (Int32.ofNat c)) J) 0 0 Q := by
        rintro _ rfl
        rw [m3_u7]
        exact g37 _ rfl
      refine rf_goW rf_mo_76 rf_T_76 60 [2, 37] (And.intro (nt_ix (n := 8) hc8 (by decide)) ?_)
      rw [nt_cl (by omega)]
      refine And.intro (fun hd => absurd (show m3 I r 1 (40 + c) 1 ≤ Int32.ofNat m from hd) ?_) (fun _ => And.intro (nt_ix (n := 8) hc8 (by decide)) ?_)
      · rw [m3_b (by decide)]
        exact fun hd => absurd ((nn_le hc.1.1 (by omega)).mp hd) (by omega)
      rw [nt_cl (by omega)]
      refine And.intro (nt_ix (n := 4) (by omega) (by decide)) ?_
      rw [nt_cl (by omega)]
      exact And.intro (op r) (hk _ (ep r))
  have k0 := key 0 (by omega) _ rfl
  rw [fmR] at k0
  exact k0
end LAR
