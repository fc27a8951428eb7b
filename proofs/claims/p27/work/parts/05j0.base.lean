/-- alike below n -/
def Same (n : Int) (f g : Nat → Int) : Prop := ∀ j : Nat, (j : Int) < n → g j = f j
theorem Same.refl (n : Int) (f : Nat → Int) : Same n f f := fun _ _ => rfl
theorem Same.trans {n m : Int} {f g k : Nat → Int} (h : Same n f g) (h2 : Same m g k) (hn : n ≤ m) : Same n f k := fun j hj => (h2 j (by omega)).trans (h j hj)
theorem Same.up {n k z : Int} {f g : Nat → Int} (h : Same n f g) (hk : n ≤ k) : Same n f (updZ g k.toNat z) := fun j hj => (updZ_n _ _ (by omega)).trans (h j hj)
/-- how many bits of twelve -/
def cnt (n : Nat) : Nat := n % 2 + n / 2 % 2 + n / 4 % 2 + n / 8 % 2 + n / 16 % 2 + n / 32 % 2 + n / 64 % 2 + n / 128 % 2 + n / 256 % 2 + n / 512 % 2 + n / 1024 % 2 + n / 2048 % 2
theorem cnt_12 (n : Nat) : cnt n ≤ 12 := by
  unfold cnt
  omega
theorem cnt_posN : ∀ a : Nat, a < 64 → ∀ b : Nat, b < 64 → 64 * a + b ≠ 0 → 1 ≤ cnt (64 * a + b) := by decide +kernel
theorem cnt_pos (s : Int) (h : 1 ≤ s ∧ s ≤ 4095) : 1 ≤ cnt s.toNat := by
  have h2 := cnt_posN (s.toNat / 64) (by omega) (s.toNat % 64) (by omega) (by omega)
  rw [show 64 * (s.toNat / 64) + s.toNat % 64 = s.toNat by omega] at h2
  exact h2
theorem cnt_lowN : ∀ a : Nat, a < 64 → ∀ b : Nat, b < 64 → ∀ t : Nat, t < 12 → z_iand (z_iushr ((64 * a + b : Nat) : Int) t) 1 ≠ 0 → 0 ≤ z_iand ((64 * a + b : Nat) : Int) (z_ixor (z_ishl 1 t) (-1)) ∧ z_iand ((64 * a + b : Nat) : Int) (z_ixor (z_ishl 1 t) (-1)) ≤ 4095 ∧ cnt (z_iand ((64 * a + b : Nat) : Int) (z_ixor (z_ishl 1 t) (-1))).toNat < cnt (64 * a + b) := by decide +kernel
theorem cnt_low (s t : Int) (h : 1 ≤ s ∧ s ≤ 4095) (ht : 0 ≤ t ∧ t ≤ 11) (hb : z_iand (z_iushr s t) 1 ≠ 0) : 0 ≤ z_iand s (z_ixor (z_ishl 1 t) (-1)) ∧ z_iand s (z_ixor (z_ishl 1 t) (-1)) ≤ 4095 ∧ cnt (z_iand s (z_ixor (z_ishl 1 t) (-1))).toNat < cnt s.toNat := by
  have h2 := cnt_lowN (s.toNat / 64) (by omega) (s.toNat % 64) (by omega) t.toNat (by omega)
  rw [show ((64 * (s.toNat / 64) + s.toNat % 64 : Nat) : Int) = s by omega, show ((t.toNat : Nat) : Int) = t by omega, show 64 * (s.toNat / 64) + s.toNat % 64 = s.toNat by omega] at h2
  exact h2 hb
