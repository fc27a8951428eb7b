theorem z_iand_1 (p : Int) (h : 0 ≤ p ∧ p ≤ 31) : z_iand p 1 = p % 2 := by
  have h3 : ∀ n : Nat, n < 32 → z_iand (n : Int) 1 = (n : Int) % 2 := by decide +kernel
  have h1 := h3 p.toNat (by omega)
  rw [show ((p.toNat : Nat) : Int) = p by omega] at h1
  exact h1
