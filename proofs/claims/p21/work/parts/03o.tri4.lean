-- four lines: 20 pieces of 500 codes
def tsW (s : Nat) (c : Int) : Nat → Int
  | 0 => c
  | m + 1 => tsW s c m + tsA 4 0 (tsD 4 10 (s + m))
theorem tsW_s (s : Nat) {c : Int} (h : tsQ 4 10 s = c) : ∀ m : Nat, tsQ 4 10 (s + m) = tsW s c m := by
  intro m
  induction m with
  | zero => exact h
  | succ m ih =>
    show tsQ 4 10 (s + m) + tsA 4 0 (tsD 4 10 (s + m)) = tsW s c m + tsA 4 0 (tsD 4 10 (s + m))
    rw [ih]
theorem tsQ_0 : tsQ 4 10 0 = 0 := rfl
set_option maxRecDepth 1000000 in
theorem tsW_0 : tsW 0 0 500 = 0 := by decide +kernel
theorem tsQ_500 : tsQ 4 10 500 = 0 := (tsW_s 0 tsQ_0 500).trans tsW_0
set_option maxRecDepth 1000000 in
theorem tsW_1 : tsW 500 0 500 = 0 := by decide +kernel
theorem tsQ_1000 : tsQ 4 10 1000 = 0 := (tsW_s 500 tsQ_500 500).trans tsW_1
set_option maxRecDepth 1000000 in
theorem tsW_2 : tsW 1000 0 500 = 0 := by decide +kernel
theorem tsQ_1500 : tsQ 4 10 1500 = 0 := (tsW_s 1000 tsQ_1000 500).trans tsW_2
set_option maxRecDepth 1000000 in
theorem tsW_3 : tsW 1500 0 500 = 0 := by decide +kernel
theorem tsQ_2000 : tsQ 4 10 2000 = 0 := (tsW_s 1500 tsQ_1500 500).trans tsW_3
set_option maxRecDepth 1000000 in
theorem tsW_4 : tsW 2000 0 500 = 0 := by decide +kernel
theorem tsQ_2500 : tsQ 4 10 2500 = 0 := (tsW_s 2000 tsQ_2000 500).trans tsW_4
set_option maxRecDepth 1000000 in
theorem tsW_5 : tsW 2500 0 500 = 0 := by decide +kernel
theorem tsQ_3000 : tsQ 4 10 3000 = 0 := (tsW_s 2500 tsQ_2500 500).trans tsW_5
set_option maxRecDepth 1000000 in
theorem tsW_6 : tsW 3000 0 500 = 0 := by decide +kernel
theorem tsQ_3500 : tsQ 4 10 3500 = 0 := (tsW_s 3000 tsQ_3000 500).trans tsW_6
set_option maxRecDepth 1000000 in
theorem tsW_7 : tsW 3500 0 500 = 0 := by decide +kernel
theorem tsQ_4000 : tsQ 4 10 4000 = 0 := (tsW_s 3500 tsQ_3500 500).trans tsW_7
set_option maxRecDepth 1000000 in
theorem tsW_8 : tsW 4000 0 500 = 0 := by decide +kernel
theorem tsQ_4500 : tsQ 4 10 4500 = 0 := (tsW_s 4000 tsQ_4000 500).trans tsW_8
set_option maxRecDepth 1000000 in
theorem tsW_9 : tsW 4500 0 500 = 0 := by decide +kernel
theorem tsQ_5000 : tsQ 4 10 5000 = 0 := (tsW_s 4500 tsQ_4500 500).trans tsW_9
set_option maxRecDepth 1000000 in
theorem tsW_10 : tsW 5000 0 500 = 1 := by decide +kernel
theorem tsQ_5500 : tsQ 4 10 5500 = 1 := (tsW_s 5000 tsQ_5000 500).trans tsW_10
set_option maxRecDepth 1000000 in
theorem tsW_11 : tsW 5500 1 500 = 2 := by decide +kernel
theorem tsQ_6000 : tsQ 4 10 6000 = 2 := (tsW_s 5500 tsQ_5500 500).trans tsW_11
set_option maxRecDepth 1000000 in
theorem tsW_12 : tsW 6000 2 500 = 2 := by decide +kernel
theorem tsQ_6500 : tsQ 4 10 6500 = 2 := (tsW_s 6000 tsQ_6000 500).trans tsW_12
set_option maxRecDepth 1000000 in
theorem tsW_13 : tsW 6500 2 500 = 2 := by decide +kernel
theorem tsQ_7000 : tsQ 4 10 7000 = 2 := (tsW_s 6500 tsQ_6500 500).trans tsW_13
set_option maxRecDepth 1000000 in
theorem tsW_14 : tsW 7000 2 500 = 4 := by decide +kernel
theorem tsQ_7500 : tsQ 4 10 7500 = 4 := (tsW_s 7000 tsQ_7000 500).trans tsW_14
set_option maxRecDepth 1000000 in
theorem tsW_15 : tsW 7500 4 500 = 6 := by decide +kernel
theorem tsQ_8000 : tsQ 4 10 8000 = 6 := (tsW_s 7500 tsQ_7500 500).trans tsW_15
set_option maxRecDepth 1000000 in
theorem tsW_16 : tsW 8000 6 500 = 7 := by decide +kernel
theorem tsQ_8500 : tsQ 4 10 8500 = 7 := (tsW_s 8000 tsQ_8000 500).trans tsW_16
set_option maxRecDepth 1000000 in
theorem tsW_17 : tsW 8500 7 500 = 8 := by decide +kernel
theorem tsQ_9000 : tsQ 4 10 9000 = 8 := (tsW_s 8500 tsQ_8500 500).trans tsW_17
set_option maxRecDepth 1000000 in
theorem tsW_18 : tsW 9000 8 500 = 8 := by decide +kernel
theorem tsQ_9500 : tsQ 4 10 9500 = 8 := (tsW_s 9000 tsQ_9000 500).trans tsW_18
set_option maxRecDepth 1000000 in
theorem tsW_19 : tsW 9500 8 500 = 8 := by decide +kernel
theorem tsQ_10000 : tsQ 4 10 10000 = 8 := (tsW_s 9500 tsQ_9500 500).trans tsW_19
theorem ts_4 : tsC 4 10 = 8 := tsQ_10000
set_option maxRecDepth 1000000 in
theorem tsW_97 : tsW 5000 0 97 = 0 := by decide +kernel
theorem tsQ_5097 : tsQ 4 10 5097 = 0 := (tsW_s 5000 tsQ_5000 97).trans tsW_97
set_option maxRecDepth 1000000 in
theorem ts_t : (tsC 1 1 = 1 ∧ tsQ 1 1 0 = 0 ∧ tsA 1 0 (tsD 1 1 0) = 1) ∧ (tsC 2 3 = 4 ∧ tsQ 2 3 2 = 0 ∧ tsA 2 0 (tsD 2 3 2) = 1) ∧ (tsC 3 6 = 8 ∧ tsQ 3 6 33 = 0 ∧ tsA 3 0 (tsD 3 6 33) = 1) := by decide +kernel
set_option maxRecDepth 1000000 in
theorem ts_t4 : tsA 4 0 (tsD 4 10 5097) = 1 := by decide +kernel
def trZ : Nat → Int := fun _ => 0
set_option maxRecDepth 1000000 in
theorem tr_t : (trC 1 1 0 trZ 0 = 1 ∧ trA 1 1 0 trZ 0 0 = tsD 1 1 0 0) ∧ (trC 2 3 0 trZ 0 = 4 ∧ trA 2 3 0 trZ 0 0 = tsD 2 3 2 0 ∧ trA 2 3 0 trZ 0 1 = tsD 2 3 2 1) ∧ (trC 3 6 0 trZ 0 = 8 ∧ trA 3 6 0 trZ 0 0 = tsD 3 6 33 0 ∧ trA 3 6 0 trZ 0 1 = tsD 3 6 33 1 ∧ trA 3 6 0 trZ 0 2 = tsD 3 6 33 2) := by decide +kernel
set_option maxRecDepth 1000000 in
theorem tr_t4 : trC 4 10 0 trZ 0 = 8 := by decide +kernel
-- the first one of four: 6, 1, 10, 8
def tr6 : Nat → Int := trRow 6 trZ
def tr61 : Nat → Int := trRow 1 tr6
def tr610 : Nat → Int := trRow 10 tr61
theorem trB_on {l g : Nat} {u : Int} {P : Nat → Int} {a i k : Nat} (hk : trP l g u P a k = 0) (hx : trX l g u P a k ≠ 0) : ∀ d : Nat, trB l g u P a i (k + 1 + d) = if i = a then (k : Int) + 1 else trA l g (trU u (trRow ((k : Int) + 1) P) (a + 1)) (trRow ((k : Int) + 1) P) (a + 1) i := by
  intro d
  induction d with
  | zero => show trB l g u P a i (k + 1) = _; rw [trB_s, if_neg (fun g => g hk), if_neg hx]
  | succ d ih =>
    have h1 := trP_le l g u P a (k := k + 1) (n := k + 1 + d) (by omega)
    have h2 := trX_nn l g u P a k
    have h3 := trP_s l g u P a k
    show trB l g u P a i (k + 1 + d + 1) = _
    rw [trB_s, if_pos (show trP l g u P a (k + 1 + d) ≠ 0 by omega), ih]
theorem trA_on {l g : Nat} {u : Int} {P : Nat → Int} {a i k : Nat} (hg : k + 1 ≤ g) (hk : trP l g u P a k = 0) (hx : trX l g u P a k ≠ 0) : trA (l + 1) g u P a i = if i = a then (k : Int) + 1 else trA l g (trU u (trRow ((k : Int) + 1) P) (a + 1)) (trRow ((k : Int) + 1) P) (a + 1) i := by
  rw [trA_B, show g = k + 1 + (g - (k + 1)) by omega]
  rw [show k + 1 + (g - (k + 1)) = g by omega]
  have h1 := trB_on (i := i) hk hx (g - (k + 1))
  rw [show k + 1 + (g - (k + 1)) = g by omega] at h1
  exact h1
set_option maxRecDepth 1000000 in
theorem tr_p5 : trP 3 10 0 trZ 0 5 = 0 := by decide +kernel
set_option maxRecDepth 1000000 in
theorem tr_x5 : trX 3 10 0 trZ 0 5 ≠ 0 := by decide +kernel
set_option maxRecDepth 1000000 in
theorem tr_a4 : (trA 3 10 (trU 0 (trRow 6 trZ) 1) (trRow 6 trZ) 1 1 = 1 ∧ trA 3 10 (trU 0 (trRow 6 trZ) 1) (trRow 6 trZ) 1 2 = 10 ∧ trA 3 10 (trU 0 (trRow 6 trZ) 1) (trRow 6 trZ) 1 3 = 8) ∧ (tsD 4 10 5097 0 = 6 ∧ tsD 4 10 5097 1 = 1 ∧ tsD 4 10 5097 2 = 10 ∧ tsD 4 10 5097 3 = 8) := by decide +kernel
theorem tr_f4 : trA 4 10 0 trZ 0 0 = tsD 4 10 5097 0 ∧ trA 4 10 0 trZ 0 1 = tsD 4 10 5097 1 ∧ trA 4 10 0 trZ 0 2 = tsD 4 10 5097 2 ∧ trA 4 10 0 trZ 0 3 = tsD 4 10 5097 3 := by
  obtain ⟨⟨h1, h2, h3⟩, d0, d1, d2, d3⟩ := tr_a4
  have k5 : ((5 : Nat) : Int) + 1 = 6 := rfl
  have b : ∀ i : Nat, trA 4 10 0 trZ 0 i = if i = 0 then 6 else trA 3 10 (trU 0 (trRow 6 trZ) 1) (trRow 6 trZ) 1 i := fun i => by
    have h := trA_on (i := i) (k := 5) (l := 3) (g := 10) (u := 0) (P := trZ) (a := 0) (by decide) tr_p5 tr_x5
    rw [k5] at h
    exact h
  refine ⟨?_, ?_, ?_, ?_⟩
  · rw [b 0, if_pos rfl, d0]
  · rw [b 1, if_neg (by decide), h1, d1]
  · rw [b 2, if_neg (by decide), h2, d2]
  · rw [b 3, if_neg (by decide), h3, d3]
/-- the class's, the reference's, by lines -/
theorem tr_all {n : Int} (h : 1 ≤ n ∧ n ≤ 4) : trC n.toNat (grN n) 0 trZ 0 = tsN n ∧ ∀ i : Nat, (i : Int) < n → trA n.toNat (grN n) 0 trZ 0 i = tsD n.toNat (grN n) (tsF n) i := by
  obtain ⟨⟨a1, a2⟩, ⟨b1, b2, b3⟩, c1, c2, c3, c4⟩ := tr_t
  obtain ⟨f1, f2, f3, f4⟩ := tr_f4
  rcases (show n = 1 ∨ n = 2 ∨ n = 3 ∨ n = 4 by omega) with rfl | rfl | rfl | rfl
  · exact ⟨a1, fun i hi => by obtain rfl : i = 0 := (by omega); exact a2⟩
  · refine ⟨b1, fun i hi => ?_⟩
    rcases (show i = 0 ∨ i = 1 by omega) with rfl | rfl
    · exact b2
    · exact b3
  · refine ⟨c1, fun i hi => ?_⟩
    rcases (show i = 0 ∨ i = 1 ∨ i = 2 by omega) with rfl | rfl | rfl
    · exact c2
    · exact c3
    · exact c4
  · refine ⟨tr_t4, fun i hi => ?_⟩
    rcases (show i = 0 ∨ i = 1 ∨ i = 2 ∨ i = 3 by omega) with rfl | rfl | rfl | rfl
    · exact f1
    · exact f2
    · exact f3
    · exact f4
theorem ts_all {n : Int} (h : 1 ≤ n ∧ n ≤ 4) : tsC n.toNat (grN n) = tsN n ∧ tsQ n.toNat (grN n) (tsF n) = 0 ∧ tsA n.toNat 0 (tsD n.toNat (grN n) (tsF n)) = 1 := by
  obtain ⟨h1, h2, h3⟩ := ts_t
  rcases (show n = 1 ∨ n = 2 ∨ n = 3 ∨ n = 4 by omega) with rfl | rfl | rfl | rfl
  · exact h1
  · exact h2
  · exact h3
  · exact ⟨ts_4, tsQ_5097, ts_t4⟩
theorem tsN_r {n : Int} : 1 ≤ tsN n ∧ tsN n ≤ 8 := by
  unfold tsN
  split
  · decide
  · split <;> decide
theorem trF_e (n w : Int) : (w = 100 ∧ trF n w = tsN n) ∨ (w ≠ 100 ∧ n ≤ w ∧ trF n w = -4) ∨ (w ≠ 100 ∧ w < n ∧ trF n w = tsD n.toNat (grN n) (tsF n) w.toNat) := by
  unfold trF
  by_cases h : w = 100
  · exact Or.inl ⟨h, if_pos h⟩
  · rw [if_neg h]
    by_cases h2 : n ≤ w
    · exact Or.inr (Or.inl ⟨h, h2, if_pos h2⟩)
    · exact Or.inr (Or.inr ⟨h, by omega, if_neg h2⟩)
