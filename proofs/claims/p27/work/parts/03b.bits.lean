theorem zI_nI (n : Nat) : zI (n : Int) = nI n := Int32.ofInt_eq_ofNat
theorem z_or_nI (a b : Nat) : nI a ||| nI b = nI (a ||| b) := by
  apply Int32.toBitVec_inj.1
  show BitVec.ofNat 32 a ||| BitVec.ofNat 32 b = BitVec.ofNat 32 (a ||| b)
  apply BitVec.eq_of_getLsbD_eq
  intro i hi
  simp [hi]
theorem z_ior_lt {k : Nat} (hk : k ≤ 31) (a b : Int) (ha : 0 ≤ a ∧ a < 2 ^ k) (hb : 0 ≤ b ∧ b < 2 ^ k) : 0 ≤ z_ior a b ∧ z_ior a b < 2 ^ k := by
  obtain ⟨n, rfl⟩ : ∃ n : Nat, a = (n : Int) := ⟨a.toNat, by omega⟩
  obtain ⟨m, rfl⟩ : ∃ m : Nat, b = (m : Int) := ⟨b.toNat, by omega⟩
  have h1 : n < 2 ^ k := by have := ha.2; norm_cast at this
  have h2 : m < 2 ^ k := by have := hb.2; norm_cast at this
  have h3 := Nat.or_lt_two_pow h1 h2
  have h4 : 2 ^ k ≤ 2 ^ 31 := Nat.pow_le_pow_right (by decide) hk
  have h5 : z_ior n m = ((n ||| m : Nat) : Int) := by
    unfold z_ior
    rw [zI_nI, zI_nI, z_or_nI, nI_toInt (Nat.lt_of_lt_of_le h3 h4)]
  rw [h5]
  refine ⟨Int.natCast_nonneg _, ?_⟩
  norm_cast
theorem z_ior_255 (a b : Int) (ha : 0 ≤ a ∧ a ≤ 255) (hb : 0 ≤ b ∧ b ≤ 255) : 0 ≤ z_ior a b ∧ z_ior a b ≤ 255 := by
  have h := z_ior_lt (k := 8) (by decide) a b (by omega) (by omega)
  omega
theorem z_shl1_7 (k : Int) (h : 0 ≤ k ∧ k ≤ 7) : 1 ≤ z_ishl 1 k ∧ z_ishl 1 k ≤ 128 := by
  have h3 : ∀ n : Nat, n < 8 → 1 ≤ z_ishl 1 n ∧ z_ishl 1 n ≤ 128 := by decide +kernel
  have h1 := h3 k.toNat (by omega)
  rw [show ((k.toNat : Nat) : Int) = k by omega] at h1
  exact h1
