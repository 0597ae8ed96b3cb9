/-! the constructors: what an object is when it is made -/
def i0 (b i j : Nat) : Int32 := if b = 0 then (if 2 ≤ j ∧ j ≤ 4 then 1 else 0) else if b = 2 then (if j = 0 ∨ j = 8 then -1 else 0) else if b = 5 then (if j = 2 then 1 else if j = 3 then -1 else 0) else if b = 100 then (if (i = 10 ∨ i = 16) ∧ j < 12 then -1 else if (18 ≤ i ∧ i ≤ 20) ∧ j < 6 then 1 else 0) else 0
def p0 (b i j : Nat) : Option (Nat × Nat) := match b with
  | 1 => if j = 0 then some (106, i) else none
  | 3 => rf_nth [(105, 1), (100, 6)] j
  | 4 => if j < 3 then some (100, 3 * i + j) else none
  | 6 => if j = 0 then some (0, 1 + i) else none
  | 7 => rf_nth sh_p7 j
  | 8 => (rf_nth sh_p8 j).getD none
  | 103 => if j < 12 then some (2, j) else none
  | 104 => if j < 6 then some (6, j) else none
  | 105 => if i = 0 then (if j < 8 then some (1, 40 + j) else none) else (if j < 40 then some (1, j) else none)
  | 106 => if j < 4 then some (5, 4 * i + j) else none
  | _ => none
def fl0 (L b i : Nat) : Nat := if b < 100 then (rf_ft b).length else sh_len L b i
def fin (L : Nat) (σ : rf_S) (b i : Nat) : Prop := σ.2.1 b i = fl0 L b i ∧ (∀ j, σ.2.2.1 b i j = i0 b i j) ∧ ∀ j, σ.2.2.2.1 b i j = p0 b i j
def same (σ σ' : rf_S) (b i : Nat) : Prop := σ'.2.1 b i = σ.2.1 b i ∧ (∀ j, σ'.2.2.1 b i j = σ.2.2.1 b i j) ∧ ∀ j, σ'.2.2.2.1 b i j = σ.2.2.2.1 b i j
theorem same_refl {σ : rf_S} {b i : Nat} : same σ σ b i := ⟨rfl, fun _ => rfl, fun _ => rfl⟩
theorem same_trans {σ σ' σ'' : rf_S} {b i : Nat} (h : same σ σ' b i) (k : same σ' σ'' b i) : same σ σ'' b i := ⟨k.1.trans h.1, fun j => (k.2.1 j).trans (h.2.1 j), fun j => (k.2.2 j).trans (h.2.2 j)⟩
theorem fin_same {L : Nat} {σ σ' : rf_S} {b i : Nat} (h : fin L σ b i) (k : same σ σ' b i) : fin L σ' b i := ⟨k.1.trans h.1, fun j => (k.2.1 j).trans (h.2.1 j), fun j => (k.2.2 j).trans (h.2.2 j)⟩
/-- blank: just made -/
def blk (σ : rf_S) (b i : Nat) : Prop := σ.2.1 b i = (rf_ft b).length ∧ (∀ j, σ.2.2.1 b i j = 0) ∧ ∀ j, σ.2.2.2.1 b i j = none
theorem newK_same {σ : rf_S} {b n b' i' : Nat} (h : ¬ (b' = b ∧ i' = σ.1 b)) : same σ (rf_newK σ b n) b' i' := by
  refine ⟨?_, fun j => ?_, fun j => ?_⟩
  · show rf_u2 _ _ _ _ b' i' = _
    rw [rf_u2, if_neg h]
  · show rf_ur _ _ _ _ b' i' j = _
    rw [rf_ur, if_neg h]
  · show rf_ur _ _ _ _ b' i' j = _
    rw [rf_ur, if_neg h]
theorem newK_new {σ : rf_S} {b n : Nat} : (rf_newK σ b n).2.1 b (σ.1 b) = n ∧ (∀ j, (rf_newK σ b n).2.2.1 b (σ.1 b) j = 0) ∧ ∀ j, (rf_newK σ b n).2.2.2.1 b (σ.1 b) j = none := by
  refine ⟨?_, fun j => ?_, fun j => ?_⟩
  · show rf_u2 _ _ _ _ b (σ.1 b) = _
    rw [rf_u2, if_pos ⟨rfl, rfl⟩]
  · show rf_ur _ _ _ _ b (σ.1 b) j = _
    rw [rf_ur, if_pos ⟨rfl, rfl⟩]
  · show rf_ur _ _ _ _ b (σ.1 b) j = _
    rw [rf_ur, if_pos ⟨rfl, rfl⟩]
theorem newK_n {σ : rf_S} {b n b' : Nat} : (rf_newK σ b n).1 b' = if b' = b then σ.1 b + 1 else σ.1 b' := rfl
theorem putI_same {σ : rf_S} {b i j b' i' : Nat} {x : Int32} (h : ¬ (b' = b ∧ i' = i)) : same σ (rf_putI σ b i j x) b' i' := by
  refine ⟨rfl, fun j' => ?_, fun _ => rfl⟩
  show rf_u3 _ _ _ _ _ b' i' j' = _
  rw [rf_u3, if_neg (fun q => h ⟨q.1, q.2.1⟩)]
theorem putP_same {σ : rf_S} {b i j b' i' : Nat} {x : Option (Nat × Nat)} (h : ¬ (b' = b ∧ i' = i)) : same σ (rf_putP σ b i j x) b' i' := by
  refine ⟨rfl, fun _ => rfl, fun j' => ?_⟩
  show rf_u3 _ _ _ _ _ b' i' j' = _
  rw [rf_u3, if_neg (fun q => h ⟨q.1, q.2.1⟩)]
theorem putI_at {σ : rf_S} {b i j j' : Nat} {x : Int32} : (rf_putI σ b i j x).2.2.1 b i j' = if j' = j then x else σ.2.2.1 b i j' := by
  show rf_u3 _ _ _ _ _ b i j' = _
  rw [rf_u3]
  by_cases h : j' = j
  · rw [if_pos ⟨rfl, rfl, h⟩, if_pos h]
  · rw [if_neg (fun q => h q.2.2), if_neg h]
theorem putP_at {σ : rf_S} {b i j j' : Nat} {x : Option (Nat × Nat)} : (rf_putP σ b i j x).2.2.2.1 b i j' = if j' = j then x else σ.2.2.2.1 b i j' := by
  show rf_u3 _ _ _ _ _ b i j' = _
  rw [rf_u3]
  by_cases h : j' = j
  · rw [if_pos ⟨rfl, rfl, h⟩, if_pos h]
  · rw [if_neg (fun q => h q.2.2), if_neg h]
section CT
variable {l : Launch} {L : Nat} {Q : rf_O → rf_S → Prop} {σ : rf_S}
theorem k_move {i : Nat} (hb : blk σ 5 i) (hq : ∀ σ', σ'.1 = σ.1 → fin L σ' 5 i → (∀ b' i', ¬ (b' = 5 ∧ i' = i) → same σ σ' b' i') → Q (.inl none) σ') : rf_C l 1 [.inr (.inr (some (5, i)))] σ Q := by
  apply rf_C.ofW
  refine rf_goW rf_mo_1 rf_T_1 40 [] (hq _ rfl ⟨hb.1, fun j => ?_, hb.2.2⟩ fun b' i' h => ?_)
  · rw [putI_at, putI_at, putI_at, putI_at, putI_at, hb.2.1 j]
    show _ = if j = 2 then 1 else if j = 3 then -1 else 0
    by_cases h2 : j = 2
    · subst h2; rfl
    · by_cases h3 : j = 3
      · subst h3; rfl
      · rw [if_neg h2, if_neg h3, if_neg h3, if_neg h2]
        split
        · rfl
        · split
          · rfl
          · split <;> rfl
  · exact same_trans (same_trans (same_trans (same_trans (putI_same h) (putI_same h)) (putI_same h)) (putI_same h)) (putI_same h)
theorem k_box {i : Nat} (hb : blk σ 0 i) (hq : ∀ σ', σ'.1 = σ.1 → fin L σ' 0 i → (∀ b' i', ¬ (b' = 0 ∧ i' = i) → same σ σ' b' i') → Q (.inl none) σ') : rf_C l 4 [.inr (.inr (some (0, i)))] σ Q := by
  apply rf_C.ofW
  refine rf_goW rf_mo_4 rf_T_4 40 [] (hq _ rfl ⟨hb.1, fun j => ?_, hb.2.2⟩ fun b' i' h => ?_)
  · rw [putI_at, putI_at, putI_at, putI_at, putI_at, hb.2.1 j]
    show _ = if 2 ≤ j ∧ j ≤ 4 then 1 else 0
    by_cases h4 : j = 4
    · subst h4; rfl
    · by_cases h3 : j = 3
      · subst h3; rfl
      · by_cases h2 : j = 2
        · subst h2; rfl
        · have e : (if 2 ≤ j ∧ j ≤ 4 then (1 : Int32) else 0) = 0 := if_neg (by omega)
          rw [e, if_neg h4, if_neg h3, if_neg h2]
          simp
  · exact same_trans (same_trans (same_trans (same_trans (putI_same h) (putI_same h)) (putI_same h)) (putI_same h)) (putI_same h)
theorem k_drive {i : Nat} (hb : blk σ 2 i) (hq : ∀ σ', σ'.1 = σ.1 → fin L σ' 2 i → (∀ b' i', ¬ (b' = 2 ∧ i' = i) → same σ σ' b' i') → Q (.inl none) σ') : rf_C l 5 [.inr (.inr (some (2, i)))] σ Q := by
  apply rf_C.ofW
  refine rf_goW rf_mo_5 rf_T_5 60 [] (And.intro (Or.inl rfl) (And.intro (Or.inl rfl) (hq _ rfl ⟨hb.1, fun j => ?_, hb.2.2⟩ fun b' i' h => ?_)))
  · rw [putI_at, putI_at, putI_at, putI_at, putI_at, putI_at, putI_at, putI_at, putI_at, hb.2.1 j]
    show _ = if j = 0 ∨ j = 8 then -1 else 0
    by_cases h8 : j = 8
    · subst h8; rfl
    · by_cases h0 : j = 0
      · subst h0; rfl
      · have e : (if j = 0 ∨ j = 8 then (-1 : Int32) else 0) = 0 := if_neg (by omega)
        rw [e, if_neg h8]
        simp [h0]
  · exact same_trans (same_trans (same_trans (same_trans (same_trans (same_trans (same_trans (same_trans (putI_same h) (putI_same h)) (putI_same h)) (putI_same h)) (putI_same h)) (putI_same h)) (putI_same h)) (putI_same h)) (putI_same h)
end CT
/-- so much of each thing is as it will be: references below N, ints below M -/
def hf (L : Nat) (σ : rf_S) (b i n m : Nat) : Prop := σ.2.1 b i = fl0 L b i ∧ (¬ b = 200 → ∀ j, σ.2.2.1 b i j = if j < m then i0 b i j else 0) ∧ ∀ j, σ.2.2.2.1 b i j = if j < n then p0 b i j else none
theorem hf_same {L : Nat} {σ σ' : rf_S} {b i n m : Nat} (h : hf L σ b i n m) (k : same σ σ' b i) : hf L σ' b i n m := ⟨k.1.trans h.1, fun z j => (k.2.1 j).trans (h.2.1 z j), fun j => (k.2.2 j).trans (h.2.2 j)⟩
def on (x y : Nat) : Nat := if x = y then 1 else 0
def cad (c : Nat → Nat) (b : Nat) : Nat → Nat := fun x => c x + on x b
def Bd (L : Nat) (σ : rf_S) (c : Nat → Nat) (N M : Nat → Nat → Nat) : Prop := (∀ b, σ.1 b = c b) ∧ (∀ b i, i < c b → hf L σ b i (N b i) (M b i)) ∧ ∀ b i, c b ≤ i → N b i = 1000 ∧ M b i = 1000
theorem u2_at {N : Nat → Nat → Nat} {b i x : Nat} : rf_u2 N b i x b i = x := by rw [rf_u2, if_pos ⟨rfl, rfl⟩]
theorem u2_ne {N : Nat → Nat → Nat} {b i x b' i' : Nat} (h : ¬ (b' = b ∧ i' = i)) : rf_u2 N b i x b' i' = N b' i' := by rw [rf_u2, if_neg h]
theorem u2_u2 {N : Nat → Nat → Nat} {b i x y : Nat} : rf_u2 (rf_u2 N b i x) b i y = rf_u2 N b i y := by
  funext b' i'
  by_cases h : b' = b ∧ i' = i
  · obtain ⟨rfl, rfl⟩ := h
    rw [u2_at, u2_at]
  · rw [u2_ne h, u2_ne h, u2_ne h]
theorem u2_id {N : Nat → Nat → Nat} {b i x : Nat} (e : N b i = x) : rf_u2 N b i x = N := by
  funext b' i'
  by_cases h : b' = b ∧ i' = i
  · rw [rf_u2, if_pos h, h.1, h.2, e]
  · rw [u2_ne h]
theorem u2_sw {N : Nat → Nat → Nat} {b i x b' i' x' : Nat} (e : ¬ (b = b' ∧ i = i')) : rf_u2 (rf_u2 N b i x) b' i' x' = rf_u2 (rf_u2 N b' i' x') b i x := by
  funext b2 i2
  by_cases h : b2 = b ∧ i2 = i
  · obtain ⟨rfl, rfl⟩ := h
    rw [u2_ne e, u2_at, u2_at]
  · by_cases h' : b2 = b' ∧ i2 = i'
    · obtain ⟨rfl, rfl⟩ := h'
      rw [u2_at, u2_ne h, u2_at]
    · rw [u2_ne h', u2_ne h, u2_ne h, u2_ne h']
section CB
variable {L : Nat} {σ : rf_S} {c : Nat → Nat} {N M : Nat → Nat → Nat}
theorem B_c {c' : Nat → Nat} (h : Bd L σ c N M) (e : ∀ b, c b = c' b) : Bd L σ c' N M := by
  have : c = c' := funext e
  rw [← this]; exact h
/-- a new one, blank -/
theorem B_new {b k : Nat} (h : Bd L σ c N M) (hk : fl0 L b (c b) = k) : Bd L (rf_newK σ b k) (cad c b) (rf_u2 N b (c b) 0) (rf_u2 M b (c b) 0) := by
  obtain ⟨h1, h2, h3⟩ := h
  refine ⟨fun b' => ?_, fun b' i hi => ?_, fun b' i hi => ?_⟩
  · show (if b' = b then σ.1 b + 1 else σ.1 b') = c b' + on b' b
    rw [on]
    by_cases q : b' = b
    · rw [if_pos q, if_pos q, q, h1 b]
    · rw [if_neg q, if_neg q, h1 b']; rfl
  · by_cases q : b' = b ∧ i = c b
    · obtain ⟨rfl, rfl⟩ := q
      obtain ⟨a1, a2, a3⟩ := newK_new (σ := σ) (b := b') (n := k)
      rw [h1 b'] at a1 a2 a3
      rw [u2_at, u2_at]
      exact ⟨a1.trans hk.symm, fun _ j => (a2 j).trans (if_neg (Nat.not_lt_zero j)).symm, fun j => (a3 j).trans (if_neg (Nat.not_lt_zero j)).symm⟩
    · rw [u2_ne q, u2_ne q]
      have hi' : i < c b' := by
        unfold cad on at hi
        by_cases w : b' = b
        · subst w
          rw [if_pos rfl] at hi
          have : i ≠ c b' := fun e => q ⟨rfl, e⟩
          omega
        · rw [if_neg w] at hi; omega
      exact hf_same (h2 b' i hi') (newK_same (by rw [h1 b]; exact q))
  · have hi' : c b' ≤ i ∧ ¬ (b' = b ∧ i = c b) := by
      unfold cad on at hi
      by_cases w : b' = b
      · subst w
        rw [if_pos rfl] at hi
        exact ⟨by omega, fun e => by omega⟩
      · rw [if_neg w] at hi; exact ⟨by omega, fun e => w e.1⟩
    rw [u2_ne hi'.2, u2_ne hi'.2]
    exact h3 b' i hi'.1
theorem B_fN {b i : Nat} (h : Bd L σ c N M) (hp : ∀ j, N b i ≤ j → p0 b i j = none) (hl : ∀ j, 1000 ≤ j → p0 b i j = none) : Bd L σ c (rf_u2 N b i 1000) M := by
  obtain ⟨h1, h2, h3⟩ := h
  refine ⟨h1, fun b' i' hi => ?_, fun b' i' hi => ?_⟩
  · by_cases q : b' = b ∧ i' = i
    · obtain ⟨rfl, rfl⟩ := q
      rw [u2_at]
      obtain ⟨a1, a2, a3⟩ := h2 b' i' hi
      refine ⟨a1, a2, fun j => (a3 j).trans ?_⟩
      by_cases w : j < N b' i'
      · by_cases w' : j < 1000
        · rw [if_pos w, if_pos w']
        · rw [if_pos w, if_neg w', hl j (by omega)]
      · rw [if_neg w, hp j (by omega)]; split <;> rfl
    · rw [u2_ne q]; exact h2 b' i' hi
  · by_cases q : b' = b ∧ i' = i
    · obtain ⟨rfl, rfl⟩ := q
      rw [u2_at]; exact ⟨rfl, (h3 b' i' hi).2⟩
    · rw [u2_ne q]; exact h3 b' i' hi
theorem B_fM {b i : Nat} (h : Bd L σ c N M) (hp : ∀ j, M b i ≤ j → i0 b i j = 0) (hl : ∀ j, 1000 ≤ j → i0 b i j = 0) : Bd L σ c N (rf_u2 M b i 1000) := by
  obtain ⟨h1, h2, h3⟩ := h
  refine ⟨h1, fun b' i' hi => ?_, fun b' i' hi => ?_⟩
  · by_cases q : b' = b ∧ i' = i
    · obtain ⟨rfl, rfl⟩ := q
      rw [u2_at]
      obtain ⟨a1, a2, a3⟩ := h2 b' i' hi
      refine ⟨a1, fun z j => (a2 z j).trans ?_, a3⟩
      by_cases w : j < M b' i'
      · by_cases w' : j < 1000
        · rw [if_pos w, if_pos w']
        · rw [if_pos w, if_neg w', hl j (by omega)]
      · rw [if_neg w, hp j (by omega)]; split <;> rfl
    · rw [u2_ne q]; exact h2 b' i' hi
  · by_cases q : b' = b ∧ i' = i
    · obtain ⟨rfl, rfl⟩ := q
      rw [u2_at]; exact ⟨(h3 b' i' hi).1, rfl⟩
    · rw [u2_ne q]; exact h3 b' i' hi
theorem B_putP {b i j n : Nat} {x : Option (Nat × Nat)} (h : Bd L σ c N M) (hi : i < c b) (hn : N b i = n) (hj : n ≤ j) (hg : ∀ j', n ≤ j' → j' < j → p0 b i j' = none) (hx : p0 b i j = x) : Bd L (rf_putP σ b i j x) c (rf_u2 N b i (j + 1)) M := by
  obtain ⟨h1, h2, h3⟩ := h
  refine ⟨h1, fun b' i' hi' => ?_, fun b' i' hi' => ?_⟩
  · by_cases q : b' = b ∧ i' = i
    · obtain ⟨rfl, rfl⟩ := q
      rw [u2_at]
      obtain ⟨a1, a2, a3⟩ := h2 b' i' hi'
      refine ⟨a1, a2, fun j' => ?_⟩
      rw [putP_at, a3 j', hn]
      by_cases w : j' = j
      · rw [if_pos w, if_pos (by omega), w, hx]
      · rw [if_neg w]
        by_cases w' : j' < n
        · rw [if_pos w', if_pos (by omega)]
        · rw [if_neg w']
          by_cases w2 : j' < j + 1
          · rw [if_pos w2, hg j' (by omega) (by omega)]
          · rw [if_neg w2]
    · rw [u2_ne q]; exact hf_same (h2 b' i' hi') (putP_same q)
  · have q : ¬ (b' = b ∧ i' = i) := fun e => by obtain ⟨rfl, rfl⟩ := e; omega
    rw [u2_ne q]; exact h3 b' i' hi'
theorem B_put0 {b i j : Nat} (h : Bd L σ c N M) (hz : ∀ j, i0 b i j = 0) : Bd L (rf_putI σ b i j 0) c N M := by
  obtain ⟨h1, h2, h3⟩ := h
  refine ⟨h1, fun b' i' hi' => ?_, h3⟩
  by_cases q : b' = b ∧ i' = i
  · obtain ⟨rfl, rfl⟩ := q
    obtain ⟨a1, a2, a3⟩ := h2 b' i' hi'
    refine ⟨a1, fun z j' => ?_, a3⟩
    rw [putI_at, a2 z j', hz j']
    split <;> split <;> rfl
  · exact hf_same (h2 b' i' hi') (putI_same q)
theorem B_putI {b i j : Nat} {x : Int32} (h : Bd L σ c N M) (hi : i < c b) (hn : M b i = j) (hx : i0 b i j = x) : Bd L (rf_putI σ b i j x) c N (rf_u2 M b i (j + 1)) := by
  obtain ⟨h1, h2, h3⟩ := h
  refine ⟨h1, fun b' i' hi' => ?_, fun b' i' hi' => ?_⟩
  · by_cases q : b' = b ∧ i' = i
    · obtain ⟨rfl, rfl⟩ := q
      rw [u2_at]
      obtain ⟨a1, a2, a3⟩ := h2 b' i' hi'
      refine ⟨a1, fun z j' => ?_, a3⟩
      rw [putI_at, a2 z j', hn]
      by_cases w : j' = j
      · rw [if_pos w, if_pos (by omega), w, hx]
      · rw [if_neg w]
        by_cases w' : j' < j
        · rw [if_pos w', if_pos (by omega)]
        · rw [if_neg w', if_neg (by omega)]
    · rw [u2_ne q]; exact hf_same (h2 b' i' hi') (putI_same q)
  · have q : ¬ (b' = b ∧ i' = i) := fun e => by obtain ⟨rfl, rfl⟩ := e; omega
    rw [u2_ne q]; exact h3 b' i' hi'
/-- one made ready by its own constructor -/
theorem B_own {b i : Nat} {σ' : rf_S} (h : Bd L σ c N M) (e : σ'.1 = σ.1) (hf' : fin L σ' b i) (hs : ∀ b' i', ¬ (b' = b ∧ i' = i) → same σ σ' b' i') (hp : ∀ j, 1000 ≤ j → p0 b i j = none) (hz : ∀ j, 1000 ≤ j → i0 b i j = 0) : Bd L σ' c (rf_u2 N b i 1000) (rf_u2 M b i 1000) := by
  obtain ⟨h1, h2, h3⟩ := h
  refine ⟨fun b => by rw [e]; exact h1 b, fun b' i' hi' => ?_, fun b' i' hi' => ?_⟩
  · by_cases q : b' = b ∧ i' = i
    · obtain ⟨rfl, rfl⟩ := q
      rw [u2_at, u2_at]
      obtain ⟨a1, a2, a3⟩ := hf'
      refine ⟨a1, fun _ j => (a2 j).trans ?_, fun j => (a3 j).trans ?_⟩
      · by_cases w : j < 1000
        · rw [if_pos w]
        · rw [if_neg w, hz j (by omega)]
      · by_cases w : j < 1000
        · rw [if_pos w]
        · rw [if_neg w, hp j (by omega)]
    · rw [u2_ne q, u2_ne q]; exact hf_same (h2 b' i' hi') (hs b' i' q)
  · by_cases q : b' = b ∧ i' = i
    · obtain ⟨rfl, rfl⟩ := q
      rw [u2_at, u2_at]; exact ⟨rfl, rfl⟩
    · rw [u2_ne q, u2_ne q]; exact h3 b' i' hi'
theorem B_blk {b i : Nat} (h : Bd L σ c N M) (hi : i < c b) (hN : N b i = 0) (hM : M b i = 0) (hb : b < 100) : blk σ b i := by
  obtain ⟨a1, a2, a3⟩ := h.2.1 b i hi
  rw [hN] at a3
  rw [hM] at a2
  exact ⟨a1.trans (if_pos hb), fun j => (a2 (by omega) j).trans (if_neg (Nat.not_lt_zero j)), fun j => (a3 j).trans (if_neg (Nat.not_lt_zero j))⟩
/-- a new array of ints, all zero -/
theorem B_arr {b k : Nat} (h : Bd L σ c N M) (hk : fl0 L b (c b) = k) (hp : ∀ j, p0 b (c b) j = none) (hz : ∀ j, i0 b (c b) j = 0) : Bd L (rf_newK σ b k) (cad c b) N M := by
  have h1 := B_fM (B_fN (B_new h hk) (fun j _ => hp j) (fun j _ => hp j)) (fun j _ => hz j) (fun j _ => hz j)
  obtain ⟨e1, e2⟩ := h.2.2 b (c b) (Nat.le_refl _)
  rw [u2_u2, u2_u2, u2_id e1, u2_id e2] at h1
  exact h1
/-- a new array of references -/
theorem B_ref {b k : Nat} (h : Bd L σ c N M) (hk : fl0 L b (c b) = k) (hz : ∀ j, i0 b (c b) j = 0) : Bd L (rf_newK σ b k) (cad c b) (rf_u2 N b (c b) 0) M := by
  have h1 := B_fM (B_new h hk) (fun j _ => hz j) (fun j _ => hz j)
  obtain ⟨_, e2⟩ := h.2.2 b (c b) (Nat.le_refl _)
  rw [u2_u2, u2_id e2] at h1
  exact h1
/-- what one reads -/
theorem B_P {b i j n : Nat} (h : Bd L σ c N M) (hi : i < c b) (hn : N b i = n) (hj : j < n) : σ.2.2.2.1 b i j = p0 b i j := by
  rw [(h.2.1 b i hi).2.2 j, hn, if_pos hj]
theorem B_l {b i : Nat} (h : Bd L σ c N M) (hi : i < c b) : σ.2.1 b i = fl0 L b i := (h.2.1 b i hi).1
end CB
