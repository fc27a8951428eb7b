theorem sl32 : ∀ n, n < 32 → ((nI n &&& 31).toBitVec.smod 32).toNat = n := by decide +kernel
theorem hasZ_n {n k : Nat} (hn : n < 2 ^ 31) (hk : k < 31) : hasZ (n : Int) (k : Int) = ((n / 2 ^ k % 2 : Nat) : Int) := by
  have h0 : n / 2 ^ k < 2 ^ 31 := Nat.lt_of_le_of_lt (Nat.div_le_self _ _) hn
  have h1 : z_ishr (n : Int) (k : Int) = ((n / 2 ^ k : Nat) : Int) := by
    unfold z_ishr
    rw [zI_nI, zI_nI, pk_shrN hn _ k (sl32 k (by omega)), nI_toInt h0]
  unfold hasZ
  rw [h1]
  unfold z_iand
  rw [zI_nI, show zI 1 = (1 : Int32) from rfl, pk_andN (Nat.lt_trans h0 (by decide)) 1 (by decide), nI_toInt (Nat.lt_of_le_of_lt (Nat.mod_le _ _) h0)]
theorem hasZ_bit {n k : Nat} (hn : n < 2 ^ 31) (hk : k < 31) : hasZ (n : Int) (k : Int) = 1 ↔ n.testBit k = true := by
  rw [hasZ_n hn hk, Nat.testBit_eq_decide_div_mod_eq, decide_eq_true_iff]
  omega
theorem z_or_n {n m : Nat} (hn : n < 4096) (hm : m < 4096) : z_ior (n : Int) (m : Int) = ((n ||| m : Nat) : Int) ∧ (n ||| m) < 4096 := by
  have h3 : n ||| m < 2 ^ 12 := Nat.or_lt_two_pow (n := 12) hn hm
  refine ⟨?_, h3⟩
  unfold z_ior
  rw [zI_nI, zI_nI, z_or_nI, nI_toInt (Nat.lt_trans h3 (by decide))]
theorem hasZ_or (s t a : Int) (hs : 0 ≤ s ∧ s ≤ 4095) (ht : 0 ≤ t ∧ t ≤ 4095) (ha : 0 ≤ a ∧ a ≤ 11) (h : hasZ s a = 1 ∨ hasZ t a = 1) : hasZ (z_ior s t) a = 1 := by
  obtain ⟨n, rfl⟩ : ∃ n : Nat, s = (n : Int) := ⟨s.toNat, by omega⟩
  obtain ⟨m, rfl⟩ : ∃ m : Nat, t = (m : Int) := ⟨t.toNat, by omega⟩
  obtain ⟨k, rfl⟩ : ∃ k : Nat, a = (k : Int) := ⟨a.toNat, by omega⟩
  obtain ⟨e, hlt⟩ := z_or_n (n := n) (m := m) (by omega) (by omega)
  rw [e, hasZ_bit (by omega) (by omega), Nat.testBit_or, Bool.or_eq_true]
  rcases h with h | h
  · exact Or.inl ((hasZ_bit (by omega) (by omega)).mp h)
  · exact Or.inr ((hasZ_bit (by omega) (by omega)).mp h)
theorem z_ior_4095 (a b : Int) (ha : 0 ≤ a ∧ a ≤ 4095) (hb : 0 ≤ b ∧ b ≤ 4095) : 0 ≤ z_ior a b ∧ z_ior a b ≤ 4095 := by
  have h := z_ior_lt (k := 12) (by decide) a b (by omega) (by omega)
  omega
theorem z_shl1_11 (k : Int) (h : 0 ≤ k ∧ k ≤ 11) : 0 ≤ z_ishl 1 k ∧ z_ishl 1 k ≤ 4095 ∧ hasZ (z_ishl 1 k) k = 1 := by
  have h3 : ∀ n : Nat, n < 12 → 0 ≤ z_ishl 1 n ∧ z_ishl 1 n ≤ 4095 ∧ hasZ (z_ishl 1 n) n = 1 := by decide +kernel
  have h1 := h3 k.toNat (by omega)
  rw [show ((k.toNat : Nat) : Int) = k by omega] at h1
  exact h1
