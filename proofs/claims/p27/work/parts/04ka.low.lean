theorem low_exN : ∀ a : Nat, a < 64 → ∀ b : Nat, b < 64 → 64 * a + b ≠ 0 → ∃ k : Nat, k < 12 ∧ hasZ ((64 * a + b : Nat) : Int) k = 1 := by decide +kernel
theorem low_ex (s : Int) (h : 1 ≤ s ∧ s ≤ 4095) : ∃ k : Int, 0 ≤ k ∧ k ≤ 11 ∧ hasZ s k = 1 := by
  obtain ⟨k, h1, h2⟩ := low_exN (s.toNat / 64) (by omega) (s.toNat % 64) (by omega) (by omega)
  rw [show ((64 * (s.toNat / 64) + s.toNat % 64 : Nat) : Int) = s by omega] at h2
  exact ⟨k, by omega, by omega, h2⟩
