-- how many bits
theorem hasZ_hi {s : Int} (hs : 0 ≤ s ∧ s ≤ 4095) {k : Int} (hk : 12 ≤ k ∧ k ≤ 30) : hasZ s k ≠ 1 := fun h => by
  have h1 := (tb_Z hs (by omega)).mp h
  have h6 : s.toNat.testBit k.toNat = false := Nat.testBit_lt_two_pow (Nat.lt_of_lt_of_le (show s.toNat < 2 ^ 12 by omega) (Nat.pow_le_pow_right (n := 2) (by decide) (by omega)))
  rw [h6] at h1; exact absurd h1 (by decide)
theorem bc_cn {s : Int} (hs : 0 ≤ s ∧ s ≤ 4095) : bcF s 16 = cnZ s := by
  rw [cnZ_h hs]
  have q : ∀ x : Int, 0 ≤ x ∧ x ≤ 30 → bcF s (x + 1).toNat = bcF s x.toNat + hasZ s x := fun x hx => by
    have h1 := bcF_s s hx.1
    have h2 := hasZ_01 hs hx
    omega
  have z : ∀ x : Int, 12 ≤ x ∧ x ≤ 30 → hasZ s x = 0 := fun x hx => by
    have h2 := hasZ_01 hs (k := x) (by omega)
    have h3 := hasZ_hi hs hx
    omega
  have h0 := q 0 (by omega); have h1 := q 1 (by omega); have h2 := q 2 (by omega); have h3 := q 3 (by omega)
  have h4 := q 4 (by omega); have h5 := q 5 (by omega); have h6 := q 6 (by omega); have h7 := q 7 (by omega)
  have h8 := q 8 (by omega); have h9 := q 9 (by omega); have ha := q 10 (by omega); have hb := q 11 (by omega)
  have hc := q 12 (by omega); have hd := q 13 (by omega); have he := q 14 (by omega); have hf := q 15 (by omega)
  have zc := z 12 (by omega); have zd := z 13 (by omega); have ze := z 14 (by omega); have zf := z 15 (by omega)
  have hz : bcF s (0 : Int).toNat = 0 := rfl
  rw [show ((15 : Int) + 1).toNat = 16 from rfl, show (15 : Int).toNat = ((14 : Int) + 1).toNat from rfl, he, show (14 : Int).toNat = ((13 : Int) + 1).toNat from rfl, hd, show (13 : Int).toNat = ((12 : Int) + 1).toNat from rfl, hc, show (12 : Int).toNat = ((11 : Int) + 1).toNat from rfl, hb, show (11 : Int).toNat = ((10 : Int) + 1).toNat from rfl, ha, show (10 : Int).toNat = ((9 : Int) + 1).toNat from rfl, h9, show (9 : Int).toNat = ((8 : Int) + 1).toNat from rfl, h8, show (8 : Int).toNat = ((7 : Int) + 1).toNat from rfl, h7, show (7 : Int).toNat = ((6 : Int) + 1).toNat from rfl, h6, show (6 : Int).toNat = ((5 : Int) + 1).toNat from rfl, h5, show (5 : Int).toNat = ((4 : Int) + 1).toNat from rfl, h4, show (4 : Int).toNat = ((3 : Int) + 1).toNat from rfl, h3, show (3 : Int).toNat = ((2 : Int) + 1).toNat from rfl, h2, show (2 : Int).toNat = ((1 : Int) + 1).toNat from rfl, h1, show (1 : Int).toNat = ((0 : Int) + 1).toNat from rfl, h0, hz] at hf
  rw [hf]
  omega
