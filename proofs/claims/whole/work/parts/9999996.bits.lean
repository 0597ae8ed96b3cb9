/-! how many ones: two ways of counting; a set of hoists has one -/
theorem and1 (z : Int32) : z &&& 1 = 0 ∨ z &&& 1 = 1 := by
  have h : (z &&& 1).toBitVec.toNat = z.toBitVec.toNat % 2 := by
    rw [Int32.toBitVec_and, BitVec.toNat_and]
    exact Nat.and_one_is_mod _
  rcases Nat.mod_two_eq_zero_or_one z.toBitVec.toNat with q | q
  · left
    apply Int32.toBitVec_inj.mp
    apply BitVec.eq_of_toNat_eq
    rw [h, q]
    rfl
  · right
    apply Int32.toBitVec_inj.mp
    apply BitVec.eq_of_toNat_eq
    rw [h, q]
    rfl
def ctP (n : Nat) : Prop := bct (Int32.ofNat n) = onF (Int32.ofNat n) 32 ∧ (n = 0 ∨ (0 < onF (Int32.ofNat n) 32 ∧ ∃ i, i < 12 ∧ ¬ btM (Int32.ofNat n) i = 0))
theorem ct_0 : ∀ n, n < 512 → bct (Int32.ofNat (0 + n)) = onF (Int32.ofNat (0 + n)) 32 ∧ (0 + n = 0 ∨ (0 < onF (Int32.ofNat (0 + n)) 32 ∧ ∃ i, i < 12 ∧ ¬ btM (Int32.ofNat (0 + n)) i = 0)) := by decide +kernel
theorem ct_1 : ∀ n, n < 512 → bct (Int32.ofNat (512 + n)) = onF (Int32.ofNat (512 + n)) 32 ∧ (512 + n = 0 ∨ (0 < onF (Int32.ofNat (512 + n)) 32 ∧ ∃ i, i < 12 ∧ ¬ btM (Int32.ofNat (512 + n)) i = 0)) := by decide +kernel
theorem ct_2 : ∀ n, n < 512 → bct (Int32.ofNat (1024 + n)) = onF (Int32.ofNat (1024 + n)) 32 ∧ (1024 + n = 0 ∨ (0 < onF (Int32.ofNat (1024 + n)) 32 ∧ ∃ i, i < 12 ∧ ¬ btM (Int32.ofNat (1024 + n)) i = 0)) := by decide +kernel
theorem ct_3 : ∀ n, n < 512 → bct (Int32.ofNat (1536 + n)) = onF (Int32.ofNat (1536 + n)) 32 ∧ (1536 + n = 0 ∨ (0 < onF (Int32.ofNat (1536 + n)) 32 ∧ ∃ i, i < 12 ∧ ¬ btM (Int32.ofNat (1536 + n)) i = 0)) := by decide +kernel
theorem ct_4 : ∀ n, n < 512 → bct (Int32.ofNat (2048 + n)) = onF (Int32.ofNat (2048 + n)) 32 ∧ (2048 + n = 0 ∨ (0 < onF (Int32.ofNat (2048 + n)) 32 ∧ ∃ i, i < 12 ∧ ¬ btM (Int32.ofNat (2048 + n)) i = 0)) := by decide +kernel
theorem ct_5 : ∀ n, n < 512 → bct (Int32.ofNat (2560 + n)) = onF (Int32.ofNat (2560 + n)) 32 ∧ (2560 + n = 0 ∨ (0 < onF (Int32.ofNat (2560 + n)) 32 ∧ ∃ i, i < 12 ∧ ¬ btM (Int32.ofNat (2560 + n)) i = 0)) := by decide +kernel
theorem ct_6 : ∀ n, n < 512 → bct (Int32.ofNat (3072 + n)) = onF (Int32.ofNat (3072 + n)) 32 ∧ (3072 + n = 0 ∨ (0 < onF (Int32.ofNat (3072 + n)) 32 ∧ ∃ i, i < 12 ∧ ¬ btM (Int32.ofNat (3072 + n)) i = 0)) := by decide +kernel
theorem ct_7 : ∀ n, n < 512 → bct (Int32.ofNat (3584 + n)) = onF (Int32.ofNat (3584 + n)) 32 ∧ (3584 + n = 0 ∨ (0 < onF (Int32.ofNat (3584 + n)) 32 ∧ ∃ i, i < 12 ∧ ¬ btM (Int32.ofNat (3584 + n)) i = 0)) := by decide +kernel
theorem ct_n {n : Nat} (h : n < 4096) : ctP n := by
  have e : ∀ k r, n = k + r → ctP (k + r) → ctP n := fun k r q w => q ▸ w
  have h8 : n < 512 ∨ (512 ≤ n ∧ n < 1024) ∨ (1024 ≤ n ∧ n < 1536) ∨ (1536 ≤ n ∧ n < 2048) ∨ (2048 ≤ n ∧ n < 2560) ∨ (2560 ≤ n ∧ n < 3072) ∨ (3072 ≤ n ∧ n < 3584) ∨ (3584 ≤ n ∧ n < 4096) := by omega
  rcases h8 with q | q | q | q | q | q | q | q
  · exact e 0 (n - 0) (by omega) (ct_0 (n - 0) (by omega))
  · exact e 512 (n - 512) (by omega) (ct_1 (n - 512) (by omega))
  · exact e 1024 (n - 1024) (by omega) (ct_2 (n - 1024) (by omega))
  · exact e 1536 (n - 1536) (by omega) (ct_3 (n - 1536) (by omega))
  · exact e 2048 (n - 2048) (by omega) (ct_4 (n - 2048) (by omega))
  · exact e 2560 (n - 2560) (by omega) (ct_5 (n - 2560) (by omega))
  · exact e 3072 (n - 3072) (by omega) (ct_6 (n - 3072) (by omega))
  · exact e 3584 (n - 3584) (by omega) (ct_7 (n - 3584) (by omega))
theorem ct_x {x : Int32} (h : 1 ≤ x ∧ x ≤ 4095) : bct x = onF x 32 ∧ 0 < onF x 32 ∧ ∃ i, i < 12 ∧ ¬ btM x i = 0 := by
  have h0 : 0 ≤ x := Int32.le_trans (by decide) h.1
  have h1 : nn x ≤ 4095 := (nn_le (i := 4095) h0 (by decide)).mp h.2
  have h2 : ¬ nn x = 0 := fun q => by
    have : x = 0 := by rw [← nn_of h0, q]; rfl
    rw [this] at h
    exact absurd h.1 (by decide)
  have c := ct_n (n := nn x) (by omega)
  unfold ctP at c
  rw [nn_of h0] at c
  exact ⟨c.1, c.2.elim (fun q => absurd q h2) id⟩
