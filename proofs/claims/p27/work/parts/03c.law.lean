/-- a step of a clause: its height ht before and behind it -/
def stepOK (c k hi : Int) (ht : Int → Int) : Prop := 0 ≤ ht k ∧ ht k ≤ k ∧ ((c / 1048576 = 0 ∧ ht (k + 1) = ht k + 1) ∨ (c / 1048576 = 1 ∧ c % 1048576 ≤ 8 ∧ ht (k + 1) = ht k + 1) ∨ (c / 1048576 = 10 ∧ 1 ≤ ht k ∧ ht (k + 1) = ht k) ∨ ((c / 1048576 = 11 ∨ c / 1048576 = 12) ∧ 1 ≤ ht k ∧ ht (k + 1) = ht k - 1 ∧ k < c % 1048576 ∧ c % 1048576 ≤ hi ∧ ht (c % 1048576) = ht k) ∨ (2 ≤ c / 1048576 ∧ c / 1048576 ≤ 9 ∧ 2 ≤ ht k ∧ ht (k + 1) = ht k - 1))
def clOK (codes : Nat → Int) (lo hi : Int) : Prop := ∃ ht : Int → Int, ht lo = 0 ∧ 0 ≤ lo ∧ lo ≤ hi ∧ hi ≤ 250 ∧ ∀ k : Int, lo ≤ k → k < hi → stepOK (codes k.toNat) k hi ht
def LawOK (codes : Nat → Int) (clauses : Int) (cf ch ce : Nat → Int) : Prop := ∀ j : Nat, (j : Int) < clauses → clOK codes (cf j) (ch j) ∧ clOK codes (ch j) (ce j)
theorem z_nr3 {a z : Int} (h : zI a = zI z) (hz : IR z) (ha : -6442450944 ≤ a ∧ a ≤ 6442450943) : z = a ∨ z = a + 4294967296 ∨ z = a - 4294967296 := by
  have h1 : (zI a).toInt = z := by rw [h, zI_toInt hz]
  have h2 : (zI a).toInt = a.bmod 4294967296 := Int32.toInt_ofInt
  rw [h2, Int.bmod_def] at h1
  split at h1 <;> omega
