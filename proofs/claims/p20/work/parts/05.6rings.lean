/-! rows of differences come round: what the reference's ring of rows rests on -/
def dz (a : Int) : Int := if a < 0 then -a else a
theorem dz_of {r a b : Int} (h : 0 ≤ r ∧ (r = a ∨ r = -a)) (e : a = b) : r = dz b := by
  subst e
  unfold dz
  by_cases hq : a < 0
  · rw [if_pos hq]; omega
  · rw [if_neg hq]; omega
theorem dz_cases (a : Int) : (a < 0 ∧ dz a = -a) ∨ (0 ≤ a ∧ dz a = a) := by
  unfold dz
  by_cases hq : a < 0
  · rw [if_pos hq]; exact Or.inl ⟨hq, rfl⟩
  · rw [if_neg hq]; exact Or.inr ⟨by omega, rfl⟩
def dzD (F : Nat → Int) : Nat → Int := fun j => dz (F j - F (j + 1))
def dzI : Nat → (Nat → Int) → (Nat → Int)
  | 0, F => F
  | k + 1, F => dzD (dzI k F)
theorem dzI_succ (k : Nat) (F : Nat → Int) : dzI (k + 1) F = dzD (dzI k F) := rfl
theorem dzI_add (b : Nat) (F : Nat → Int) : ∀ a : Nat, dzI a (dzI b F) = dzI (a + b) F := by
  intro a
  induction a with
  | zero => rw [Nat.zero_add]; rfl
  | succ a ih => rw [dzI_succ, ih, show a + 1 + b = (a + b) + 1 by omega, dzI_succ]
def dzP (n : Nat) (F : Nat → Int) : Prop := ∀ j : Nat, F (j + n) = F j
def dzB (M : Int) (F : Nat → Int) : Prop := ∀ j : Nat, 0 ≤ F j ∧ F j ≤ M
def dzT (c : Int) (F : Nat → Int) : Prop := ∀ j : Nat, F j = 0 ∨ F j = c
theorem dzP.d {n : Nat} {F : Nat → Int} (h : dzP n F) : dzP n (dzD F) := fun j => by
  show dz (F (j + n) - F (j + n + 1)) = dz (F j - F (j + 1))
  rw [h j, show j + n + 1 = (j + 1) + n by omega, h (j + 1)]
theorem dzP.i {n : Nat} {F : Nat → Int} (h : dzP n F) : ∀ k : Nat, dzP n (dzI k F) := by
  intro k
  induction k with
  | zero => exact h
  | succ k ih => exact ih.d
theorem dzP.all {n : Nat} {F : Nat → Int} (h : dzP n F) (hn : 1 ≤ n) {P : Int → Prop} (hP : ∀ j : Nat, j < n → P (F j)) : ∀ j : Nat, P (F j) := by
  intro j
  induction j using Nat.strongRecOn with
  | ind j ih =>
    rcases (show j < n ∨ n ≤ j by omega) with hq | hq
    · exact hP j hq
    · have h1 := h (j - n)
      rw [show j - n + n = j by omega] at h1
      rw [h1]
      exact ih (j - n) (by omega)
theorem dzP.ext {n : Nat} {F G : Nat → Int} (h : dzP n F) (hG : dzP n G) (hn : 1 ≤ n) (he : ∀ j : Nat, j < n → F j = G j) : F = G := by
  funext j
  induction j using Nat.strongRecOn with
  | ind j ih =>
    rcases (show j < n ∨ n ≤ j by omega) with hq | hq
    · exact he j hq
    · have h1 := h (j - n)
      have h2 := hG (j - n)
      rw [show j - n + n = j by omega] at h1 h2
      rw [h1, h2]
      exact ih (j - n) (by omega)
theorem dzB.d {M : Int} {F : Nat → Int} (h : dzB M F) : dzB M (dzD F) := fun j => by
  show 0 ≤ dz (F j - F (j + 1)) ∧ dz (F j - F (j + 1)) ≤ M
  have h1 := h j
  have h2 := h (j + 1)
  have h3 := dz_cases (F j - F (j + 1))
  omega
theorem dzB.i {M : Int} {F : Nat → Int} (h : dzB M F) : ∀ k : Nat, dzB M (dzI k F) := by
  intro k
  induction k with
  | zero => exact h
  | succ k ih => exact ih.d
theorem dzT.d {c : Int} (hc : 0 ≤ c) {F : Nat → Int} (h : dzT c F) : dzT c (dzD F) := fun j => by
  show dz (F j - F (j + 1)) = 0 ∨ dz (F j - F (j + 1)) = c
  have h1 := h j
  have h2 := h (j + 1)
  have h3 := dz_cases (F j - F (j + 1))
  omega
theorem dzT.i {c : Int} (hc : 0 ≤ c) {F : Nat → Int} (h : dzT c F) : ∀ k : Nat, dzT c (dzI k F) := by
  intro k
  induction k with
  | zero => exact h
  | succ k ih => exact ih.d hc
/-- a block of 0 and M in the next row: a longer one in this -/
theorem dz_block {M : Int} {F : Nat → Int} (hB : dzB M F) {i m t0 : Nat} (h : ∀ t : Nat, t ≤ m → dzD F (i + t) = 0 ∨ dzD F (i + t) = M) (h0 : t0 ≤ m) (hM : dzD F (i + t0) = M) : (∀ t : Nat, t ≤ m + 1 → F (i + t) = 0 ∨ F (i + t) = M) ∧ ∃ t : Nat, t ≤ m + 1 ∧ F (i + t) = M := by
  have hs : ∀ t : Nat, dzD F (i + t) = dz (F (i + t) - F (i + t + 1)) := fun t => rfl
  have hc : (F (i + t0) = 0 ∧ F (i + t0 + 1) = M) ∨ (F (i + t0) = M ∧ F (i + t0 + 1) = 0) := by
    have h1 := hB (i + t0)
    have h2 := hB (i + t0 + 1)
    have h3 := dz_cases (F (i + t0) - F (i + t0 + 1))
    rw [hs] at hM
    omega
  have hr : ∀ d : Nat, t0 + 1 + d ≤ m + 1 → F (i + (t0 + 1 + d)) = 0 ∨ F (i + (t0 + 1 + d)) = M := by
    intro d
    induction d with
    | zero => intro _; rw [show i + (t0 + 1 + 0) = i + t0 + 1 by omega]; omega
    | succ d ih =>
      intro hd
      have h1 := ih (by omega)
      have h2 := h (t0 + 1 + d) (by omega)
      rw [hs] at h2
      have h3 := dz_cases (F (i + (t0 + 1 + d)) - F (i + (t0 + 1 + d) + 1))
      have h4 := hB (i + (t0 + 1 + d) + 1)
      rw [show i + (t0 + 1 + (d + 1)) = i + (t0 + 1 + d) + 1 by omega]
      omega
  have hl : ∀ d : Nat, d ≤ t0 → F (i + (t0 - d)) = 0 ∨ F (i + (t0 - d)) = M := by
    intro d
    induction d with
    | zero => intro _; rw [Nat.sub_zero]; omega
    | succ d ih =>
      intro hd
      have h1 := ih (by omega)
      have h2 := h (t0 - (d + 1)) (by omega)
      rw [hs] at h2
      have h3 := dz_cases (F (i + (t0 - (d + 1))) - F (i + (t0 - (d + 1)) + 1))
      have h4 := hB (i + (t0 - (d + 1)))
      rw [show i + (t0 - (d + 1)) + 1 = i + (t0 - d) by omega] at h2 h3
      omega
  refine ⟨fun t ht => ?_, ?_⟩
  · rcases (show t ≤ t0 ∨ t0 < t by omega) with hq | hq
    · have h1 := hl (t0 - t) (by omega)
      rw [show t0 - (t0 - t) = t by omega] at h1
      exact h1
    · have h1 := hr (t - (t0 + 1)) (by omega)
      rw [show t0 + 1 + (t - (t0 + 1)) = t by omega] at h1
      exact h1
  · rcases hc with hc | hc
    · exact ⟨t0 + 1, by omega, hc.2⟩
    · exact ⟨t0, by omega, hc.1⟩
theorem dz_blocks {M : Int} {F : Nat → Int} (hB : dzB M F) {i : Nat} : ∀ (k m : Nat), (∀ t : Nat, t ≤ m → dzI k F (i + t) = 0 ∨ dzI k F (i + t) = M) → (∃ t : Nat, t ≤ m ∧ dzI k F (i + t) = M) → ∀ t : Nat, t ≤ m + k → F (i + t) = 0 ∨ F (i + t) = M := by
  intro k
  induction k with
  | zero => intro m h _ t ht; exact h t ht
  | succ k ih =>
    intro m h h2
    obtain ⟨t0, ht0, hM⟩ := h2
    obtain ⟨h3, h4⟩ := dz_block (hB.i k) h ht0 hM
    intro t ht
    exact ih (m + 1) h3 h4 t (by omega)
theorem dz_less {M : Int} {n : Nat} {F : Nat → Int} (hB : dzB M F) (hP : dzP n F) (hn : 1 ≤ n) : dzT M F ∨ dzB (M - 1) (dzI (n - 1) F) := by
  by_cases hq : ∀ j : Nat, j < n → dzI (n - 1) F j ≤ M - 1
  · exact Or.inr fun j => ⟨(hB.i (n - 1) j).1, (hP.i (n - 1)).all hn (P := fun v => v ≤ M - 1) hq j⟩
  · refine Or.inl ?_
    obtain ⟨i, hi⟩ := Classical.not_forall.mp hq
    obtain ⟨hin, hv⟩ := Classical.not_imp.mp hi
    have hb := hB.i (n - 1) i
    have hM : dzI (n - 1) F i = M := by omega
    have hb2 := dz_blocks hB (i := i) (n - 1) 0 (fun t ht => by rw [show i + t = i by omega]; exact Or.inr hM) ⟨0, Nat.le_refl 0, hM⟩
    refine hP.all hn (P := fun v => v = 0 ∨ v = M) (fun j hj => ?_)
    rcases (show i ≤ j ∨ j < i by omega) with hq | hq
    · have h1 := hb2 (j - i) (by omega)
      rw [show i + (j - i) = j by omega] at h1
      exact h1
    · have h1 := hb2 (j + n - i) (by omega)
      rw [show i + (j + n - i) = j + n by omega, hP j] at h1
      exact h1
theorem dz_two {n : Nat} (hn : 1 ≤ n) : ∀ (M : Nat) (F : Nat → Int), dzB (M : Int) F → dzP n F → ∃ c : Int, 0 ≤ c ∧ dzT c (dzI (M * (n - 1)) F) := by
  intro M
  induction M with
  | zero =>
    intro F hB _
    refine ⟨0, Int.le_refl 0, dzT.i (Int.le_refl 0) (fun j => ?_) _⟩
    have h1 := hB j
    left; omega
  | succ M ih =>
    intro F hB hP
    rcases dz_less hB hP hn with h1 | h1
    · exact ⟨((M + 1 : Nat) : Int), by omega, h1.i (by omega) _⟩
    · rw [show (((M + 1 : Nat) : Int) - 1) = (M : Int) by omega] at h1
      obtain ⟨c, hc, h2⟩ := ih _ h1 (hP.i (n - 1))
      rw [dzI_add, ← Nat.succ_mul] at h2
      exact ⟨c, hc, h2⟩
theorem dz_php : ∀ (N : Nat) (g : Nat → Nat), (∀ i : Nat, i ≤ N → g i < N) → ∃ i j : Nat, i < j ∧ j ≤ N ∧ g i = g j := by
  intro N
  induction N with
  | zero => intro g h; exact absurd (h 0 (Nat.le_refl 0)) (Nat.not_lt_zero _)
  | succ N ih =>
    intro g h
    by_cases hq : ∃ i : Nat, i ≤ N ∧ g i = g (N + 1)
    · obtain ⟨i, hi, he⟩ := hq
      exact ⟨i, N + 1, by omega, Nat.le_refl _, he⟩
    · have hne : ∀ i : Nat, i ≤ N → g i ≠ g (N + 1) := fun i hi he => hq ⟨i, hi, he⟩
      have hv := h (N + 1) (Nat.le_refl _)
      obtain ⟨i, j, hij, hj, he⟩ := ih (fun i => if g i < g (N + 1) then g i else g i - 1) (fun i hi => by
        have h1 := h i (by omega)
        have h2 := hne i hi
        show (if g i < g (N + 1) then g i else g i - 1) < N
        by_cases hz : g i < g (N + 1)
        · rw [if_pos hz]; omega
        · rw [if_neg hz]; omega)
      refine ⟨i, j, hij, by omega, ?_⟩
      have h1 := hne i (by omega)
      have h2 := hne j hj
      have he2 : (if g i < g (N + 1) then g i else g i - 1) = (if g j < g (N + 1) then g j else g j - 1) := he
      by_cases hz : g i < g (N + 1)
      · by_cases hy : g j < g (N + 1)
        · rw [if_pos hz, if_pos hy] at he2; exact he2
        · rw [if_pos hz, if_neg hy] at he2; omega
      · by_cases hy : g j < g (N + 1)
        · rw [if_neg hz, if_pos hy] at he2; omega
        · rw [if_neg hz, if_neg hy] at he2; omega
def dzC (F : Nat → Int) : Nat → Nat
  | 0 => 0
  | n + 1 => 2 * dzC F n + (if F n = 0 then 0 else 1)
theorem dzC_succ (F : Nat → Int) (n : Nat) : dzC F (n + 1) = 2 * dzC F n + (if F n = 0 then 0 else 1) := rfl
theorem dzC_lt (F : Nat → Int) : ∀ n : Nat, dzC F n < 2 ^ n := by
  intro n
  induction n with
  | zero => exact Nat.zero_lt_one
  | succ n ih =>
    rw [dzC_succ, Nat.pow_succ]
    by_cases hq : F n = 0
    · rw [if_pos hq]; omega
    · rw [if_neg hq]; omega
theorem dzC_inj {F G : Nat → Int} : ∀ n : Nat, dzC F n = dzC G n → ∀ j : Nat, j < n → (F j = 0 ↔ G j = 0) := by
  intro n
  induction n with
  | zero => intro _ j hj; exact absurd hj (Nat.not_lt_zero _)
  | succ n ih =>
    intro h j hj
    rw [dzC_succ, dzC_succ] at h
    by_cases h1 : F n = 0
    · by_cases h2 : G n = 0
      · rw [if_pos h1, if_pos h2] at h
        rcases (show j < n ∨ j = n by omega) with hq | hq
        · exact ih (by omega) j hq
        · rw [hq]; exact ⟨fun _ => h2, fun _ => h1⟩
      · rw [if_pos h1, if_neg h2] at h; omega
    · by_cases h2 : G n = 0
      · rw [if_neg h1, if_pos h2] at h; omega
      · rw [if_neg h1, if_neg h2] at h
        rcases (show j < n ∨ j = n by omega) with hq | hq
        · exact ih (by omega) j hq
        · rw [hq]; exact ⟨fun a => absurd a h1, fun a => absurd a h2⟩
theorem dz_ring {n : Nat} {F : Nat → Int} (hn : 1 ≤ n ∧ n ≤ 8) (hB : dzB 255 F) (hP : dzP n F) : ∃ mu lam : Nat, mu ≤ 2041 ∧ 1 ≤ lam ∧ lam ≤ 256 ∧ ∀ k : Nat, mu ≤ k → dzI (k + lam) F = dzI k F := by
  obtain ⟨c, hc, hT⟩ := dz_two hn.1 255 F hB hP
  have hK : 255 * (n - 1) ≤ 1785 := by omega
  generalize 255 * (n - 1) = K at hT hK
  have hTi : ∀ i : Nat, dzT c (dzI (i + K) F) := fun i => by rw [← dzI_add]; exact hT.i hc i
  have h256 : 2 ^ n ≤ 256 := Nat.pow_le_pow_right (n := 2) (by decide) hn.2
  obtain ⟨i, j, hij, hj, he⟩ := dz_php 256 (fun i => dzC (dzI (i + K) F) n) (fun i _ => Nat.lt_of_lt_of_le (dzC_lt _ n) h256)
  have hinj := dzC_inj n he
  have hE : dzI (j + K) F = dzI (i + K) F := dzP.ext (hP.i _) (hP.i _) hn.1 (fun q hq => by
    have h1 := hTi i q
    have h2 := hTi j q
    have h3 := hinj q hq
    rcases h1 with h1 | h1
    · rw [h1, h3.mp h1]
    · rcases h2 with h2 | h2
      · rw [h2, h3.mpr h2]
      · rw [h1, h2])
  refine ⟨i + K, j - i, by omega, by omega, by omega, fun k hk => ?_⟩
  have h1 : dzI (k + (j - i)) F = dzI (k - (i + K)) (dzI (j + K) F) := by rw [dzI_add, show k - (i + K) + (j + K) = k + (j - i) by omega]
  rw [h1, hE, dzI_add, show k - (i + K) + (i + K) = k by omega]
def dzF (tape : Nat → Int) (n : Nat) : Nat → Int := fun j => z_iand (tape (j % n)) 255
theorem dzF_P (tape : Nat → Int) (n : Nat) : dzP n (dzF tape n) := fun j => by
  show z_iand (tape ((j + n) % n)) 255 = z_iand (tape (j % n)) 255
  rw [Nat.add_mod_right]
theorem dzF_B (tape : Nat → Int) (n : Nat) : dzB 255 (dzF tape n) := fun j => by
  have h1 := z_iand_r (tape (j % n)) 255 (by omega) (by omega)
  show 0 ≤ z_iand (tape (j % n)) 255 ∧ z_iand (tape (j % n)) 255 ≤ 255
  omega
/-- a row is the k-th behind the first -/
def dzR (row : Nat → Int) (n : Int) (F : Nat → Int) (k : Int) : Prop := ∀ j : Nat, (j : Int) < n → row j = dzI k.toNat F j
def dzS (n : Int) (f g : Nat → Int) : Prop := ∀ j : Nat, (j : Int) < n → g j = dz (f j - (if (j : Int) + 1 = n then f 0 else f (j + 1)))
theorem dzR.ini {row tape : Nat → Int} {n : Int} (hn : 1 ≤ n) (h : ∀ j : Nat, (j : Int) < n → row j = z_iand (tape j) 255) : dzR row n (dzF tape n.toNat) 0 := fun j hj => by
  show row j = z_iand (tape (j % n.toNat)) 255
  rw [h j hj, Nat.mod_eq_of_lt (by omega)]
theorem dzR.next {row row2 tape : Nat → Int} {n k : Int} (h : dzR row n (dzF tape n.toNat) k) (hn : 1 ≤ n) (hk : 0 ≤ k) (hs : dzS n row row2) : dzR row2 n (dzF tape n.toNat) (k + 1) := fun j hj => by
  rw [hs j hj, show (k + 1).toNat = k.toNat + 1 by omega, dzI_succ]
  show _ = dz (dzI k.toNat _ j - dzI k.toNat _ (j + 1))
  by_cases hq : (j : Int) + 1 = n
  · rw [if_pos hq, h j hj, h 0 (by omega)]
    have h1 := (dzF_P tape n.toNat).i k.toNat 0
    rw [show 0 + n.toNat = j + 1 by omega] at h1
    rw [h1]
  · rw [if_neg hq, h j hj, h (j + 1) (by omega)]
theorem dzR.copy {row row2 : Nat → Int} {n k : Int} {F : Nat → Int} (h : dzR row n F k) (he : ∀ j : Nat, (j : Int) < n → row2 j = row j) : dzR row2 n F k := fun j hj => (he j hj).trans (h j hj)
/-- so many rows behind a place it is the same -/
def dzO (tape : Nat → Int) (n r : Int) : Prop := ∃ s : Nat, s ≤ 5000 ∧ ∀ j : Nat, (j : Int) < n → dzI (s + r.toNat) (dzF tape n.toNat) j = dzI s (dzF tape n.toNat) j
theorem dzO.of {one other tape : Nat → Int} {n s r : Int} (h1 : dzR one n (dzF tape n.toNat) s) (h2 : dzR other n (dzF tape n.toNat) (s + r)) (h0 : 0 ≤ s ∧ s ≤ 5000) (hr : 0 ≤ r) (he : ∀ j : Nat, (j : Int) < n → one j = other j) : dzO tape n r := ⟨s.toNat, by omega, fun j hj => by
  have h3 := h1 j hj
  have h4 := h2 j hj
  rw [show (s + r).toNat = s.toNat + r.toNat by omega] at h4
  rw [← h4, ← h3, he j hj]⟩
theorem dz_same {one other tape : Nat → Int} {n s r : Int} {mu lam : Nat} (h1 : dzR one n (dzF tape n.toNat) s) (h2 : dzR other n (dzF tape n.toNat) (s + r)) (hs : (mu : Int) ≤ s) (hr : r = (lam : Int)) (hl : ∀ k : Nat, mu ≤ k → dzI (k + lam) (dzF tape n.toNat) = dzI k (dzF tape n.toNat)) : ∀ j : Nat, (j : Int) < n → one j = other j := fun j hj => by
  have h3 := h1 j hj
  have h4 := h2 j hj
  rw [show (s + r).toNat = s.toNat + lam by omega, hl s.toNat (by omega)] at h4
  rw [h3, h4]
theorem dz_same2 {one other tape : Nat → Int} {n r : Int} {s : Nat} (h1 : dzR one n (dzF tape n.toNat) (s : Int)) (h2 : dzR other n (dzF tape n.toNat) ((s : Int) + r)) (hr : 0 ≤ r) (ho : ∀ j : Nat, (j : Int) < n → dzI (s + r.toNat) (dzF tape n.toNat) j = dzI s (dzF tape n.toNat) j) : ∀ j : Nat, (j : Int) < n → one j = other j := fun j hj => by
  have h3 := h1 j hj
  have h4 := h2 j hj
  rw [show ((s : Int) + r).toNat = s + r.toNat by omega, ho j hj] at h4
  rw [show ((s : Nat) : Int).toNat = s by omega] at h3
  rw [h3, h4]
-- THE RING: where it begins, how long it is
def dzM (F : Nat → Int) (m : Nat) : Prop := (∃ l : Nat, 1 ≤ l ∧ dzI (m + l) F = dzI m F) ∧ ∀ k l : Nat, k < m → 1 ≤ l → dzI (k + l) F ≠ dzI k F
def dzL (F : Nat → Int) (m l : Nat) : Prop := 1 ≤ l ∧ dzI (m + l) F = dzI m F ∧ ∀ k : Nat, 1 ≤ k → k < l → dzI (m + k) F ≠ dzI m F
theorem dz_on {F : Nat → Int} {i j : Nat} (h : dzI i F = dzI j F) (d : Nat) : dzI (i + d) F = dzI (j + d) F := by
  rw [Nat.add_comm i d, Nat.add_comm j d, ← dzI_add, ← dzI_add, h]
theorem dz_mul {F : Nat → Int} {m l : Nat} (h : dzI (m + l) F = dzI m F) : ∀ q : Nat, dzI (m + q * l) F = dzI m F := by
  intro q
  induction q with
  | zero => rw [Nat.zero_mul]; rfl
  | succ q ih =>
    have h1 := dz_on ih l
    rw [show m + (q + 1) * l = m + q * l + l by rw [Nat.succ_mul]; omega, h1, h]
/-- a period is one from the ring's begin on -/
theorem dz_per {F : Nat → Int} {m v w : Nat} (hm : dzM F m) (h : dzI (v + w) F = dzI v F) {a : Nat} (ha : m ≤ a) : dzI (a + w) F = dzI a F := by
  obtain ⟨⟨l, hl, he⟩, _⟩ := hm
  have h1 : ∀ b : Nat, m ≤ b → dzI (b + v * l) F = dzI b F := fun b hb => by
    have h2 := dz_on he (b - m)
    rw [show m + l + (b - m) = b + l by omega, show m + (b - m) = b by omega] at h2
    exact dz_mul h2 v
  have h3 : v ≤ v * l := Nat.le_mul_of_pos_right v hl
  have h4 := dz_on h (a + v * l - v)
  rw [show v + w + (a + v * l - v) = a + w + v * l by omega, show v + (a + v * l - v) = a + v * l by omega, h1 (a + w) (by omega), h1 a ha] at h4
  exact h4
theorem dzM.le {F : Nat → Int} {m v w : Nat} (hm : dzM F m) (hw : 1 ≤ w) (h : dzI (v + w) F = dzI v F) : m ≤ v := by
  rcases (show m ≤ v ∨ v < m by omega) with h1 | h1
  · exact h1
  · exact absurd h (hm.2 v w h1 hw)
theorem dzM.u {F : Nat → Int} {m k : Nat} (hm : dzM F m) (hk : dzM F k) : m = k := by
  obtain ⟨l, h1, h2⟩ := hm.1
  obtain ⟨l', h3, h4⟩ := hk.1
  have h5 := hm.le h3 h4
  have h6 := hk.le h1 h2
  omega
theorem dzL.u {F : Nat → Int} {m a b l k : Nat} (hm : dzM F m) (h1 : dzL F a l) (h2 : dzL F b k) : l = k := by
  have ha := hm.le h1.1 h1.2.1
  have hb := hm.le h2.1 h2.2.1
  rcases (show l < k ∨ l = k ∨ k < l by omega) with h | h | h
  · exact absurd (dz_per hm h1.2.1 hb) (h2.2.2 l h1.1 h)
  · exact h
  · exact absurd (dz_per hm h2.2.1 ha) (h1.2.2 k h2.1 h)
theorem dz_least {P : Nat → Prop} {n : Nat} (h : P n) : ∃ m : Nat, m ≤ n ∧ P m ∧ ∀ k : Nat, k < m → ¬ P k := by
  have key : ∀ d : Nat, (∃ m : Nat, m ≤ d ∧ P m ∧ ∀ k : Nat, k < m → ¬ P k) ∨ ∀ k : Nat, k ≤ d → ¬ P k := by
    intro d
    induction d with
    | zero =>
      by_cases h0 : P 0
      · exact Or.inl ⟨0, Nat.le_refl 0, h0, fun k hk => absurd hk (Nat.not_lt_zero k)⟩
      · exact Or.inr (fun k hk => by obtain rfl : k = 0 := (by omega); exact h0)
    | succ d ih =>
      rcases ih with ⟨m, a, b, c⟩ | ih
      · exact Or.inl ⟨m, by omega, b, c⟩
      · by_cases h0 : P (d + 1)
        · exact Or.inl ⟨d + 1, Nat.le_refl _, h0, fun k hk => ih k (by omega)⟩
        · refine Or.inr (fun k hk => ?_)
          rcases (show k ≤ d ∨ k = d + 1 by omega) with h1 | h1
          · exact ih k h1
          · rw [h1]; exact h0
  rcases key n with h1 | h1
  · exact h1
  · exact absurd h (h1 n (Nat.le_refl n))
theorem dz_has {n : Nat} {F : Nat → Int} (hn : 1 ≤ n ∧ n ≤ 8) (hB : dzB 255 F) (hP : dzP n F) : ∃ m l : Nat, m ≤ 2041 ∧ l ≤ 256 ∧ dzM F m ∧ dzL F m l := by
  obtain ⟨mu, lam, h1, h2, h3, h4⟩ := dz_ring hn hB hP
  obtain ⟨m, hm, ⟨l, hl, he⟩, hk⟩ := dz_least (P := fun m => ∃ l : Nat, 1 ≤ l ∧ dzI (m + l) F = dzI m F) (n := mu) ⟨lam, h2, h4 mu (Nat.le_refl _)⟩
  have hM : dzM F m := ⟨⟨l, hl, he⟩, fun k l hk1 hl1 he1 => hk k hk1 ⟨l, hl1, he1⟩⟩
  obtain ⟨l2, a, ⟨b1, b2⟩, c⟩ := dz_least (P := fun l => 1 ≤ l ∧ dzI (m + l) F = dzI m F) (n := lam) ⟨h2, dz_per hM (h4 mu (Nat.le_refl _)) (Nat.le_refl m)⟩
  exact ⟨m, l2, by omega, by omega, hM, b1, b2, fun k hk1 hk2 he2 => c k hk2 ⟨hk1, he2⟩⟩
/-- rows alike where they are told -/
theorem dz_ext {n : Nat} {F : Nat → Int} (hP : dzP n F) (hn : 1 ≤ n) {a b : Nat} (h : ∀ j : Nat, j < n → dzI a F j = dzI b F j) : dzI a F = dzI b F := dzP.ext (hP.i a) (hP.i b) hn h
/-- a row that stays is none -/
theorem dz_fix {n : Nat} {F : Nat → Int} (hn : 1 ≤ n) (hB : dzB 255 F) (hP : dzP n F) (h : dzD F = F) : ∀ j : Nat, F j = 0 := by
  have h0 : ∀ j : Nat, F j = dz (F j - F (j + 1)) := fun j => (congrFun h j).symm
  have hc : ∀ j : Nat, F (j + 1) = 0 ∨ F (j + 1) = 2 * F j := fun j => by
    have h1 := h0 j
    have h2 := dz_cases (F j - F (j + 1))
    have h3 := hB j
    have h4 := hB (j + 1)
    omega
  have hd : ∀ k j : Nat, F j = 0 → F (j + k) = 0 := by
    intro k
    induction k with
    | zero => intro j hj; exact hj
    | succ k ih =>
      intro j hj
      have h1 := ih j hj
      rcases hc (j + k) with h2 | h2
      · exact h2
      · rw [show j + (k + 1) = j + k + 1 by omega, h2, h1]; rfl
  intro j
  by_cases hz : ∃ k : Nat, F (j + k) = 0
  · obtain ⟨k, hk⟩ := hz
    have h1 := hd (k * (n - 1)) (j + k) hk
    have h2 : ∀ q : Nat, F (j + q * n) = F j := by
      intro q
      induction q with
      | zero => rw [Nat.zero_mul]; rfl
      | succ q ih => rw [Nat.succ_mul, ← Nat.add_assoc, hP, ih]
    have h3 : j + k + k * (n - 1) = j + k * n := by
      obtain ⟨w, rfl⟩ : ∃ w : Nat, n = w + 1 := ⟨n - 1, by omega⟩
      rw [Nat.add_sub_cancel, Nat.mul_succ]
      omega
    rw [h3, h2 k] at h1
    exact h1
  · exfalso
    have h1 : ∀ k : Nat, F (j + (k + 1)) = 2 * F (j + k) := fun k => by
      rcases hc (j + k) with h2 | h2
      · exact absurd ⟨k + 1, h2⟩ hz
      · exact h2
    have h2 : ∀ k : Nat, (k : Int) + 1 ≤ F (j + k) := by
      intro k
      induction k with
      | zero =>
        have h3 := hB j
        have h4 : F (j + 0) ≠ 0 := fun e => hz ⟨0, e⟩
        have h5 : F (j + 0) = F j := rfl
        omega
      | succ k ih =>
        have h3 := h1 k
        omega
    have h3 := h2 255
    have h4 := hB (j + 255)
    omega
/-- what ROUND answers -/
def roR (F : Nat → Int) (what r : Int) : Prop := ∃ m l : Nat, dzM F m ∧ dzL F m l ∧ ((what = 1 ∧ r = (l : Int)) ∨ (what = 2 ∧ r = (m : Int)) ∨ (what ≠ 1 ∧ what ≠ 2 ∧ l = 1 ∧ r = (m : Int)) ∨ (what ≠ 1 ∧ what ≠ 2 ∧ l ≠ 1 ∧ r = -2))
theorem roR.u {F : Nat → Int} {what r q : Int} (h1 : roR F what r) (h2 : roR F what q) : r = q := by
  obtain ⟨m, l, a, b, c⟩ := h1
  obtain ⟨m', l', a', b', c'⟩ := h2
  obtain rfl := a.u a'
  obtain rfl := dzL.u a b b'
  omega
/-- where one that goes twice as fast is met -/
theorem dz_floyd {n : Nat} {F : Nat → Int} (hn : 1 ≤ n ∧ n ≤ 8) (hB : dzB 255 F) (hP : dzP n F) : ∃ k : Nat, k < 1000000 ∧ dzI (k + 1) F = dzI (2 * k + 2) F := by
  obtain ⟨m, l, h1, h2, hM, hL⟩ := dz_has hn hB hP
  have h3 : (m + 1) * l ≤ 2042 * 256 := Nat.mul_le_mul (by omega) h2
  have h4 : m + 1 ≤ (m + 1) * l := Nat.le_mul_of_pos_right (m + 1) hL.1
  refine ⟨(m + 1) * l - 1, by omega, ?_⟩
  have h5 : dzI ((m + 1) * l + l) F = dzI ((m + 1) * l) F := dz_per hM hL.2.1 (by omega)
  have h6 := dz_mul h5 (m + 1)
  rw [show (m + 1) * l - 1 + 1 = (m + 1) * l by omega, show 2 * ((m + 1) * l - 1) + 2 = (m + 1) * l + (m + 1) * l by omega]
  exact h6.symm
/-- where it is met again from the start on -/
theorem dz_meet {n : Nat} {F : Nat → Int} (hn : 1 ≤ n ∧ n ≤ 8) (hB : dzB 255 F) (hP : dzP n F) {v w x : Nat} (hw : 1 ≤ w) (hv : dzI (v + w) F = dzI v F) (hk : ∀ k : Nat, k < x → dzI k F ≠ dzI (k + w) F) (hx : dzI x F = dzI (x + w) F ∨ 5000 ≤ x) : dzM F x := by
  obtain ⟨m, l, h1, h2, hM, hL⟩ := dz_has hn hB hP
  have h3 : ¬ m < x := fun h => hk m h (dz_per hM hv (Nat.le_refl m)).symm
  rcases hx with hx | hx
  · have h4 := hM.le hw hx.symm
    obtain rfl : m = x := by omega
    exact hM
  · omega
theorem dz_round {n : Nat} {F : Nat → Int} (hn : 1 ≤ n) (hB : dzB 255 F) (hP : dzP n F) {m l : Nat} (hL : dzL F m l) : l = 1 ↔ ∀ j : Nat, j < n → dzI m F j = 0 := by
  constructor
  · intro h j hj
    have h1 := hL.2.1
    rw [h, dzI_succ] at h1
    exact dz_fix hn (hB.i m) (hP.i m) h1 j
  · intro h
    have h0 : ∀ j : Nat, dzI m F j = 0 := (hP.i m).all (P := fun z => z = 0) hn h
    have h1 : dzI (m + 1) F = dzI m F := by
      rw [dzI_succ]
      funext j
      show dz (dzI m F j - dzI m F (j + 1)) = dzI m F j
      rw [h0 j, h0 (j + 1)]
      rfl
    rcases (show l = 1 ∨ 1 < l by have := hL.1; omega) with h2 | h2
    · exact h2
    · exact absurd h1 (hL.2.2 1 (Nat.le_refl 1) h2)
def dzG (f : Nat → Int) (n : Nat) : Nat → Int := fun j => f (j % n)
theorem dzG_P (f : Nat → Int) (n : Nat) : dzP n (dzG f n) := fun j => by
  show f ((j + n) % n) = f (j % n)
  rw [Nat.add_mod_right]
/-- a row of numbers in a long -/
def lnR (x : Int) (F : Nat → Int) (n k : Int) : Prop := lgN x = pkN (dzI k.toNat F) n.toNat
def FOK (F : Nat → Int) (n : Int) : Prop := dzP n.toNat F ∧ dzB 255 F ∧ 2 ≤ n ∧ n ≤ 8
theorem lnR.eq {F : Nat → Int} {n x y a b : Int} (hF : FOK F n) (h1 : lnR x F n a) (h2 : lnR y F n b) : lgN x = lgN y ↔ dzI a.toNat F = dzI b.toNat F := by
  obtain ⟨hP, hB, h3, h4⟩ := hF
  unfold lnR at h1 h2
  constructor
  · intro h
    rw [h1, h2] at h
    exact dz_ext hP (by omega) (pkN_inj (hB.i _) (hB.i _) h)
  · intro h
    rw [h1, h2, h]
/-- two rows that go, the second one as far ahead as it was -/
def flR (F : Nat → Int) (n x5 x3 x : Int) : Prop := ∃ v : Nat, 1 ≤ v ∧ dzI v F = dzI (2 * v) F ∧ lnR x3 F n x ∧ lnR x5 F n (2 * (v : Int) + x) ∧ ∀ k : Nat, (k : Int) < x → dzI k F ≠ dzI (k + 2 * v) F
theorem flR.ini {F : Nat → Int} {n p x5 x x3 : Int} (hF : FOK F n) (hp : lgN p = pkN F n.toNat) (h3 : lnR x3 F n (x + 1)) (h5 : lnR x5 F n (2 * x + 2)) (hx : 0 ≤ x ∧ x ≤ 1000000) (hk : ∀ k : Nat, (k : Int) < x → dzI (k + 1) F ≠ dzI (2 * k + 2) F) (he : lgN x3 = lgN x5 ∨ 1000000 ≤ x) : flR F n x5 p 0 := by
  obtain ⟨hP, hB, h1, h2⟩ := hF
  rcases he with he | he
  · have h6 := (lnR.eq ⟨hP, hB, h1, h2⟩ h3 h5).mp he
    refine ⟨(x + 1).toNat, by omega, ?_, hp, ?_, fun k hk2 => absurd hk2 (by omega)⟩
    · rw [h6]; congr 1; omega
    · rw [show 2 * (((x + 1).toNat : Nat) : Int) + 0 = 2 * x + 2 by omega]; exact h5
  · obtain ⟨k, h7, h8⟩ := dz_floyd (n := n.toNat) (by omega) hB hP
    exact absurd h8 (hk k (by omega))
theorem flR.step {F : Nat → Int} {n x5 x3 x y5 y3 : Int} (hF : FOK F n) (h : flR F n x5 x3 x) (hx : 0 ≤ x) (he : ¬ lgN x3 = lgN x5) (h3 : ∀ G : Nat → Int, FOK G n → lgN x3 = pkN G n.toNat → lgN y3 = pkN (dzD G) n.toNat) (h5 : ∀ G : Nat → Int, FOK G n → lgN x5 = pkN G n.toNat → lgN y5 = pkN (dzD G) n.toNat) : flR F n y5 y3 (x + 1) := by
  obtain ⟨v, a, b, c, d, e⟩ := h
  have hG : ∀ k : Nat, FOK (dzI k F) n := fun k => ⟨hF.1.i k, hF.2.1.i k, hF.2.2⟩
  refine ⟨v, a, b, ?_, ?_, fun k hk => ?_⟩
  · have h6 := h3 _ (hG x.toNat) c
    unfold lnR
    rw [h6, show (x + 1).toNat = x.toNat + 1 by omega, dzI_succ]
  · have h6 := h5 _ (hG _) d
    unfold lnR
    rw [h6, show (2 * (v : Int) + (x + 1)).toNat = (2 * (v : Int) + x).toNat + 1 by omega, dzI_succ]
  · rcases (show (k : Int) < x ∨ k = x.toNat by omega) with h6 | h6
    · exact e k h6
    · intro h7
      apply he
      refine (lnR.eq hF c d).mpr ?_
      rw [← h6, h7]
      congr 1
      omega
theorem flR.out {F : Nat → Int} {n x5 x3 x : Int} (hF : FOK F n) (h : flR F n x5 x3 x) (hx : 0 ≤ x) (he : lgN x3 = lgN x5 ∨ 1000000 ≤ x) : dzM F x.toNat := by
  obtain ⟨v, a, b, c, d, e⟩ := h
  refine dz_meet (n := n.toNat) (v := v) (w := 2 * v) (by have := hF.2.2; omega) hF.2.1 hF.1 (by omega) ?_ (fun k hk => e k (by omega)) (he.elim (fun h6 => Or.inl ?_) (fun h6 => Or.inr (by omega)))
  · have h7 : dzI (v + v) F = dzI v F := by rw [show v + v = 2 * v by omega]; exact b.symm
    exact dz_mul h7 2
  · have h7 := (lnR.eq hF c d).mp h6
    rw [h7]
    congr 1
    omega
theorem lnR.next {F : Nat → Int} {n x y k k1 : Int} (hF : FOK F n) (h : lnR x F n k) (hk : 0 ≤ k) (h1 : k1 = k + 1) (h3 : ∀ G : Nat → Int, FOK G n → lgN x = pkN G n.toNat → lgN y = pkN (dzD G) n.toNat) : lnR y F n k1 := by
  have h6 := h3 _ ⟨hF.1.i k.toNat, hF.2.1.i k.toNat, hF.2.2⟩ h
  unfold lnR
  rw [h6, h1, show (k + 1).toNat = k.toNat + 1 by omega, dzI_succ]
theorem lnR.ne {F : Nat → Int} {n x y a b : Int} (hF : FOK F n) (h1 : lnR x F n a) (h2 : lnR y F n b) (h : ¬ lgN x = lgN y) : dzI a.toNat F ≠ dzI b.toNat F := fun e => h ((lnR.eq hF h1 h2).mpr e)
/-- so many rows in the ring -/
theorem dz_many {F : Nat → Int} {n x y r : Int} (hF : FOK F n) (hr : 1 ≤ r ∧ r ≤ 1000000) (h0 : lnR x F n 0) (h1 : lnR y F n r) (hk : ∀ k : Nat, 1 ≤ k → (k : Int) < r → dzI k F ≠ F) (he : lgN y = lgN x ∨ 1000000 ≤ r) (hl : ∃ l : Nat, 1 ≤ l ∧ l ≤ 256 ∧ dzI l F = F) : dzL F 0 r.toNat := by
  rcases he with he | he
  · have h6 := (lnR.eq hF h1 h0).mp he
    exact ⟨by omega, by rw [Nat.zero_add]; exact h6, fun k a b => by rw [Nat.zero_add]; exact hk k a (by omega)⟩
  · obtain ⟨l, a, b, c⟩ := hl
    exact absurd c (hk l a (by omega))
theorem dzL.at {F : Nat → Int} {m l : Nat} (h : dzL (dzI m F) 0 l) : dzL F m l := by
  obtain ⟨a, b, c⟩ := h
  refine ⟨a, ?_, fun k h1 h2 h3 => c k h1 h2 ?_⟩
  · rw [dzI_add, Nat.zero_add, Nat.add_comm] at b; exact b
  · rw [dzI_add, Nat.zero_add, Nat.add_comm]; exact h3
noncomputable def roF (f : Nat → Int) (n what : Int) : Int := Classical.epsilon (roR (dzG f n.toNat) what)
theorem roR.f {f : Nat → Int} {n what r : Int} (h : roR (dzG f n.toNat) what r) : r = roF f n what := h.u (Classical.epsilon_spec (p := roR (dzG f n.toNat) what) ⟨r, h⟩)
