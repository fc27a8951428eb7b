/-! rows of differences come round: what the reference's ring of rows rests on -/
def dz (a : Int) : Int := if a < 0 then -a else a
theorem dz_of {r a b : Int} (h : 0 ≤ r ∧ (r = a ∨ r = -a)) (e : a = b) : r = dz b := by
  subst e
  unfold dz
  by_cases hq : a < 0
  · rw [if_pos hq]; omega
  · rw [if_neg hq]; omega
theorem dz_cases (a : Int) : (a < 0 ∧ dz a = -a) ∨ (0 ≤ a ∧ dz a = a) := by
  unfold dz
  by_cases hq : a < 0
  · rw [if_pos hq]; exact Or.inl ⟨hq, rfl⟩
  · rw [if_neg hq]; exact Or.inr ⟨by omega, rfl⟩
def dzD (F : Nat → Int) : Nat → Int := fun j => dz (F j - F (j + 1))
def dzI : Nat → (Nat → Int) → (Nat → Int)
  | 0, F => F
  | k + 1, F => dzD (dzI k F)
theorem dzI_succ (k : Nat) (F : Nat → Int) : dzI (k + 1) F = dzD (dzI k F) := rfl
theorem dzI_add (b : Nat) (F : Nat → Int) : ∀ a : Nat, dzI a (dzI b F) = dzI (a + b) F := by
  intro a
  induction a with
  | zero => rw [Nat.zero_add]; rfl
  | succ a ih => rw [dzI_succ, ih, show a + 1 + b = (a + b) + 1 by omega, dzI_succ]
def dzP (n : Nat) (F : Nat → Int) : Prop := ∀ j : Nat, F (j + n) = F j
def dzB (M : Int) (F : Nat → Int) : Prop := ∀ j : Nat, 0 ≤ F j ∧ F j ≤ M
def dzT (c : Int) (F : Nat → Int) : Prop := ∀ j : Nat, F j = 0 ∨ F j = c
theorem dzP.d {n : Nat} {F : Nat → Int} (h : dzP n F) : dzP n (dzD F) := fun j => by
  show dz (F (j + n) - F (j + n + 1)) = dz (F j - F (j + 1))
  rw [h j, show j + n + 1 = (j + 1) + n by omega, h (j + 1)]
theorem dzP.i {n : Nat} {F : Nat → Int} (h : dzP n F) : ∀ k : Nat, dzP n (dzI k F) := by
  intro k
  induction k with
  | zero => exact h
  | succ k ih => exact ih.d
theorem dzP.all {n : Nat} {F : Nat → Int} (h : dzP n F) (hn : 1 ≤ n) {P : Int → Prop} (hP : ∀ j : Nat, j < n → P (F j)) : ∀ j : Nat, P (F j) := by
  intro j
  induction j using Nat.strongRecOn with
  | ind j ih =>
    rcases (show j < n ∨ n ≤ j by omega) with hq | hq
    · exact hP j hq
    · have h1 := h (j - n)
      rw [show j - n + n = j by omega] at h1
      rw [h1]
      exact ih (j - n) (by omega)
theorem dzP.ext {n : Nat} {F G : Nat → Int} (h : dzP n F) (hG : dzP n G) (hn : 1 ≤ n) (he : ∀ j : Nat, j < n → F j = G j) : F = G := by
  funext j
  induction j using Nat.strongRecOn with
  | ind j ih =>
    rcases (show j < n ∨ n ≤ j by omega) with hq | hq
    · exact he j hq
    · have h1 := h (j - n)
      have h2 := hG (j - n)
      rw [show j - n + n = j by omega] at h1 h2
      rw [h1, h2]
      exact ih (j - n) (by omega)
theorem dzB.d {M : Int} {F : Nat → Int} (h : dzB M F) : dzB M (dzD F) := fun j => by
  show 0 ≤ dz (F j - F (j + 1)) ∧ dz (F j - F (j + 1)) ≤ M
  have h1 := h j
  have h2 := h (j + 1)
  have h3 := dz_cases (F j - F (j + 1))
  omega
theorem dzB.i {M : Int} {F : Nat → Int} (h : dzB M F) : ∀ k : Nat, dzB M (dzI k F) := by
  intro k
  induction k with
  | zero => exact h
  | succ k ih => exact ih.d
theorem dzT.d {c : Int} (hc : 0 ≤ c) {F : Nat → Int} (h : dzT c F) : dzT c (dzD F) := fun j => by
  show dz (F j - F (j + 1)) = 0 ∨ dz (F j - F (j + 1)) = c
  have h1 := h j
  have h2 := h (j + 1)
  have h3 := dz_cases (F j - F (j + 1))
  omega
theorem dzT.i {c : Int} (hc : 0 ≤ c) {F : Nat → Int} (h : dzT c F) : ∀ k : Nat, dzT c (dzI k F) := by
  intro k
  induction k with
  | zero => exact h
  | succ k ih => exact ih.d hc
/-- a block of 0 and M in the next row: a longer one in this -/
theorem dz_block {M : Int} {F : Nat → Int} (hB : dzB M F) {i m t0 : Nat} (h : ∀ t : Nat, t ≤ m → dzD F (i + t) = 0 ∨ dzD F (i + t) = M) (h0 : t0 ≤ m) (hM : dzD F (i + t0) = M) : (∀ t : Nat, t ≤ m + 1 → F (i + t) = 0 ∨ F (i + t) = M) ∧ ∃ t : Nat, t ≤ m + 1 ∧ F (i + t) = M := by
  have hs : ∀ t : Nat, dzD F (i + t) = dz (F (i + t) - F (i + t + 1)) := fun t => rfl
  have hc : (F (i + t0) = 0 ∧ F (i + t0 + 1) = M) ∨ (F (i + t0) = M ∧ F (i + t0 + 1) = 0) := by
    have h1 := hB (i + t0)
    have h2 := hB (i + t0 + 1)
    have h3 := dz_cases (F (i + t0) - F (i + t0 + 1))
    rw [hs] at hM
    omega
  have hr : ∀ d : Nat, t0 + 1 + d ≤ m + 1 → F (i + (t0 + 1 + d)) = 0 ∨ F (i + (t0 + 1 + d)) = M := by
    intro d
    induction d with
    | zero => intro _; rw [show i + (t0 + 1 + 0) = i + t0 + 1 by omega]; omega
    | succ d ih =>
      intro hd
      have h1 := ih (by omega)
      have h2 := h (t0 + 1 + d) (by omega)
      rw [hs] at h2
      have h3 := dz_cases (F (i + (t0 + 1 + d)) - F (i + (t0 + 1 + d) + 1))
      have h4 := hB (i + (t0 + 1 + d) + 1)
      rw [show i + (t0 + 1 + (d + 1)) = i + (t0 + 1 + d) + 1 by omega]
      omega
  have hl : ∀ d : Nat, d ≤ t0 → F (i + (t0 - d)) = 0 ∨ F (i + (t0 - d)) = M := by
    intro d
    induction d with
    | zero => intro _; rw [Nat.sub_zero]; omega
    | succ d ih =>
      intro hd
      have h1 := ih (by omega)
      have h2 := h (t0 - (d + 1)) (by omega)
      rw [hs] at h2
      have h3 := dz_cases (F (i + (t0 - (d + 1))) - F (i + (t0 - (d + 1)) + 1))
      have h4 := hB (i + (t0 - (d + 1)))
      rw [show i + (t0 - (d + 1)) + 1 = i + (t0 - d) by omega] at h2 h3
      omega
  refine ⟨fun t ht => ?_, ?_⟩
  · rcases (show t ≤ t0 ∨ t0 < t by omega) with hq | hq
    · have h1 := hl (t0 - t) (by omega)
      rw [show t0 - (t0 - t) = t by omega] at h1
      exact h1
    · have h1 := hr (t - (t0 + 1)) (by omega)
      rw [show t0 + 1 + (t - (t0 + 1)) = t by omega] at h1
      exact h1
  · rcases hc with hc | hc
    · exact ⟨t0 + 1, by omega, hc.2⟩
    · exact ⟨t0, by omega, hc.1⟩
theorem dz_blocks {M : Int} {F : Nat → Int} (hB : dzB M F) {i : Nat} : ∀ (k m : Nat), (∀ t : Nat, t ≤ m → dzI k F (i + t) = 0 ∨ dzI k F (i + t) = M) → (∃ t : Nat, t ≤ m ∧ dzI k F (i + t) = M) → ∀ t : Nat, t ≤ m + k → F (i + t) = 0 ∨ F (i + t) = M := by
  intro k
  induction k with
  | zero => intro m h _ t ht; exact h t ht
  | succ k ih =>
    intro m h h2
    obtain ⟨t0, ht0, hM⟩ := h2
    obtain ⟨h3, h4⟩ := dz_block (hB.i k) h ht0 hM
    intro t ht
    exact ih (m + 1) h3 h4 t (by omega)
theorem dz_less {M : Int} {n : Nat} {F : Nat → Int} (hB : dzB M F) (hP : dzP n F) (hn : 1 ≤ n) : dzT M F ∨ dzB (M - 1) (dzI (n - 1) F) := by
  by_cases hq : ∀ j : Nat, j < n → dzI (n - 1) F j ≤ M - 1
  · exact Or.inr fun j => ⟨(hB.i (n - 1) j).1, (hP.i (n - 1)).all hn (P := fun v => v ≤ M - 1) hq j⟩
  · refine Or.inl ?_
    obtain ⟨i, hi⟩ := Classical.not_forall.mp hq
    obtain ⟨hin, hv⟩ := Classical.not_imp.mp hi
    have hb := hB.i (n - 1) i
    have hM : dzI (n - 1) F i = M := by omega
    have hb2 := dz_blocks hB (i := i) (n - 1) 0 (fun t ht => by rw [show i + t = i by omega]; exact Or.inr hM) ⟨0, Nat.le_refl 0, hM⟩
    refine hP.all hn (P := fun v => v = 0 ∨ v = M) (fun j hj => ?_)
    rcases (show i ≤ j ∨ j < i by omega) with hq | hq
    · have h1 := hb2 (j - i) (by omega)
      rw [show i + (j - i) = j by omega] at h1
      exact h1
    · have h1 := hb2 (j + n - i) (by omega)
      rw [show i + (j + n - i) = j + n by omega, hP j] at h1
      exact h1
theorem dz_two {n : Nat} (hn : 1 ≤ n) : ∀ (M : Nat) (F : Nat → Int), dzB (M : Int) F → dzP n F → ∃ c : Int, 0 ≤ c ∧ dzT c (dzI (M * (n - 1)) F) := by
  intro M
  induction M with
  | zero =>
    intro F hB _
    refine ⟨0, Int.le_refl 0, dzT.i (Int.le_refl 0) (fun j => ?_) _⟩
    have h1 := hB j
    left; omega
  | succ M ih =>
    intro F hB hP
    rcases dz_less hB hP hn with h1 | h1
    · exact ⟨((M + 1 : Nat) : Int), by omega, h1.i (by omega) _⟩
    · rw [show (((M + 1 : Nat) : Int) - 1) = (M : Int) by omega] at h1
      obtain ⟨c, hc, h2⟩ := ih _ h1 (hP.i (n - 1))
      rw [dzI_add, ← Nat.succ_mul] at h2
      exact ⟨c, hc, h2⟩
theorem dz_php : ∀ (N : Nat) (g : Nat → Nat), (∀ i : Nat, i ≤ N → g i < N) → ∃ i j : Nat, i < j ∧ j ≤ N ∧ g i = g j := by
  intro N
  induction N with
  | zero => intro g h; exact absurd (h 0 (Nat.le_refl 0)) (Nat.not_lt_zero _)
  | succ N ih =>
    intro g h
    by_cases hq : ∃ i : Nat, i ≤ N ∧ g i = g (N + 1)
    · obtain ⟨i, hi, he⟩ := hq
      exact ⟨i, N + 1, by omega, Nat.le_refl _, he⟩
    · have hne : ∀ i : Nat, i ≤ N → g i ≠ g (N + 1) := fun i hi he => hq ⟨i, hi, he⟩
      have hv := h (N + 1) (Nat.le_refl _)
      obtain ⟨i, j, hij, hj, he⟩ := ih (fun i => if g i < g (N + 1) then g i else g i - 1) (fun i hi => by
        have h1 := h i (by omega)
        have h2 := hne i hi
        show (if g i < g (N + 1) then g i else g i - 1) < N
        by_cases hz : g i < g (N + 1)
        · rw [if_pos hz]; omega
        · rw [if_neg hz]; omega)
      refine ⟨i, j, hij, by omega, ?_⟩
      have h1 := hne i (by omega)
      have h2 := hne j hj
      have he2 : (if g i < g (N + 1) then g i else g i - 1) = (if g j < g (N + 1) then g j else g j - 1) := he
      by_cases hz : g i < g (N + 1)
      · by_cases hy : g j < g (N + 1)
        · rw [if_pos hz, if_pos hy] at he2; exact he2
        · rw [if_pos hz, if_neg hy] at he2; omega
      · by_cases hy : g j < g (N + 1)
        · rw [if_neg hz, if_pos hy] at he2; omega
        · rw [if_neg hz, if_neg hy] at he2; omega
def dzC (F : Nat → Int) : Nat → Nat
  | 0 => 0
  | n + 1 => 2 * dzC F n + (if F n = 0 then 0 else 1)
theorem dzC_succ (F : Nat → Int) (n : Nat) : dzC F (n + 1) = 2 * dzC F n + (if F n = 0 then 0 else 1) := rfl
theorem dzC_lt (F : Nat → Int) : ∀ n : Nat, dzC F n < 2 ^ n := by
  intro n
  induction n with
  | zero => exact Nat.zero_lt_one
  | succ n ih =>
    rw [dzC_succ, Nat.pow_succ]
    by_cases hq : F n = 0
    · rw [if_pos hq]; omega
    · rw [if_neg hq]; omega
theorem dzC_inj {F G : Nat → Int} : ∀ n : Nat, dzC F n = dzC G n → ∀ j : Nat, j < n → (F j = 0 ↔ G j = 0) := by
  intro n
  induction n with
  | zero => intro _ j hj; exact absurd hj (Nat.not_lt_zero _)
  | succ n ih =>
    intro h j hj
    rw [dzC_succ, dzC_succ] at h
    by_cases h1 : F n = 0
    · by_cases h2 : G n = 0
      · rw [if_pos h1, if_pos h2] at h
        rcases (show j < n ∨ j = n by omega) with hq | hq
        · exact ih (by omega) j hq
        · rw [hq]; exact ⟨fun _ => h2, fun _ => h1⟩
      · rw [if_pos h1, if_neg h2] at h; omega
    · by_cases h2 : G n = 0
      · rw [if_neg h1, if_pos h2] at h; omega
      · rw [if_neg h1, if_neg h2] at h
        rcases (show j < n ∨ j = n by omega) with hq | hq
        · exact ih (by omega) j hq
        · rw [hq]; exact ⟨fun a => absurd a h1, fun a => absurd a h2⟩
theorem dz_ring {n : Nat} {F : Nat → Int} (hn : 1 ≤ n ∧ n ≤ 8) (hB : dzB 255 F) (hP : dzP n F) : ∃ mu lam : Nat, mu ≤ 2041 ∧ 1 ≤ lam ∧ lam ≤ 256 ∧ ∀ k : Nat, mu ≤ k → dzI (k + lam) F = dzI k F := by
  obtain ⟨c, hc, hT⟩ := dz_two hn.1 255 F hB hP
  have hK : 255 * (n - 1) ≤ 1785 := by omega
  generalize 255 * (n - 1) = K at hT hK
  have hTi : ∀ i : Nat, dzT c (dzI (i + K) F) := fun i => by rw [← dzI_add]; exact hT.i hc i
  have h256 : 2 ^ n ≤ 256 := Nat.pow_le_pow_right (n := 2) (by decide) hn.2
  obtain ⟨i, j, hij, hj, he⟩ := dz_php 256 (fun i => dzC (dzI (i + K) F) n) (fun i _ => Nat.lt_of_lt_of_le (dzC_lt _ n) h256)
  have hinj := dzC_inj n he
  have hE : dzI (j + K) F = dzI (i + K) F := dzP.ext (hP.i _) (hP.i _) hn.1 (fun q hq => by
    have h1 := hTi i q
    have h2 := hTi j q
    have h3 := hinj q hq
    rcases h1 with h1 | h1
    · rw [h1, h3.mp h1]
    · rcases h2 with h2 | h2
      · rw [h2, h3.mpr h2]
      · rw [h1, h2])
  refine ⟨i + K, j - i, by omega, by omega, by omega, fun k hk => ?_⟩
  have h1 : dzI (k + (j - i)) F = dzI (k - (i + K)) (dzI (j + K) F) := by rw [dzI_add, show k - (i + K) + (j + K) = k + (j - i) by omega]
  rw [h1, hE, dzI_add, show k - (i + K) + (i + K) = k by omega]
def dzF (tape : Nat → Int) (n : Nat) : Nat → Int := fun j => z_iand (tape (j % n)) 255
theorem dzF_P (tape : Nat → Int) (n : Nat) : dzP n (dzF tape n) := fun j => by
  show z_iand (tape ((j + n) % n)) 255 = z_iand (tape (j % n)) 255
  rw [Nat.add_mod_right]
theorem dzF_B (tape : Nat → Int) (n : Nat) : dzB 255 (dzF tape n) := fun j => by
  have h1 := z_iand_r (tape (j % n)) 255 (by omega) (by omega)
  show 0 ≤ z_iand (tape (j % n)) 255 ∧ z_iand (tape (j % n)) 255 ≤ 255
  omega
/-- a row is the k-th behind the first -/
def dzR (row : Nat → Int) (n : Int) (F : Nat → Int) (k : Int) : Prop := ∀ j : Nat, (j : Int) < n → row j = dzI k.toNat F j
def dzS (n : Int) (f g : Nat → Int) : Prop := ∀ j : Nat, (j : Int) < n → g j = dz (f j - (if (j : Int) + 1 = n then f 0 else f (j + 1)))
theorem dzR.ini {row tape : Nat → Int} {n : Int} (hn : 1 ≤ n) (h : ∀ j : Nat, (j : Int) < n → row j = z_iand (tape j) 255) : dzR row n (dzF tape n.toNat) 0 := fun j hj => by
  show row j = z_iand (tape (j % n.toNat)) 255
  rw [h j hj, Nat.mod_eq_of_lt (by omega)]
theorem dzR.next {row row2 tape : Nat → Int} {n k : Int} (h : dzR row n (dzF tape n.toNat) k) (hn : 1 ≤ n) (hk : 0 ≤ k) (hs : dzS n row row2) : dzR row2 n (dzF tape n.toNat) (k + 1) := fun j hj => by
  rw [hs j hj, show (k + 1).toNat = k.toNat + 1 by omega, dzI_succ]
  show _ = dz (dzI k.toNat _ j - dzI k.toNat _ (j + 1))
  by_cases hq : (j : Int) + 1 = n
  · rw [if_pos hq, h j hj, h 0 (by omega)]
    have h1 := (dzF_P tape n.toNat).i k.toNat 0
    rw [show 0 + n.toNat = j + 1 by omega] at h1
    rw [h1]
  · rw [if_neg hq, h j hj, h (j + 1) (by omega)]
theorem dzR.copy {row row2 : Nat → Int} {n k : Int} {F : Nat → Int} (h : dzR row n F k) (he : ∀ j : Nat, (j : Int) < n → row2 j = row j) : dzR row2 n F k := fun j hj => (he j hj).trans (h j hj)
/-- so many rows behind a place it is the same -/
def dzO (tape : Nat → Int) (n r : Int) : Prop := ∃ s : Nat, s ≤ 5000 ∧ ∀ j : Nat, (j : Int) < n → dzI (s + r.toNat) (dzF tape n.toNat) j = dzI s (dzF tape n.toNat) j
theorem dzO.of {one other tape : Nat → Int} {n s r : Int} (h1 : dzR one n (dzF tape n.toNat) s) (h2 : dzR other n (dzF tape n.toNat) (s + r)) (h0 : 0 ≤ s ∧ s ≤ 5000) (hr : 0 ≤ r) (he : ∀ j : Nat, (j : Int) < n → one j = other j) : dzO tape n r := ⟨s.toNat, by omega, fun j hj => by
  have h3 := h1 j hj
  have h4 := h2 j hj
  rw [show (s + r).toNat = s.toNat + r.toNat by omega] at h4
  rw [← h4, ← h3, he j hj]⟩
theorem dz_same {one other tape : Nat → Int} {n s r : Int} {mu lam : Nat} (h1 : dzR one n (dzF tape n.toNat) s) (h2 : dzR other n (dzF tape n.toNat) (s + r)) (hs : (mu : Int) ≤ s) (hr : r = (lam : Int)) (hl : ∀ k : Nat, mu ≤ k → dzI (k + lam) (dzF tape n.toNat) = dzI k (dzF tape n.toNat)) : ∀ j : Nat, (j : Int) < n → one j = other j := fun j hj => by
  have h3 := h1 j hj
  have h4 := h2 j hj
  rw [show (s + r).toNat = s.toNat + lam by omega, hl s.toNat (by omega)] at h4
  rw [h3, h4]
theorem dz_same2 {one other tape : Nat → Int} {n r : Int} {s : Nat} (h1 : dzR one n (dzF tape n.toNat) (s : Int)) (h2 : dzR other n (dzF tape n.toNat) ((s : Int) + r)) (hr : 0 ≤ r) (ho : ∀ j : Nat, (j : Int) < n → dzI (s + r.toNat) (dzF tape n.toNat) j = dzI s (dzF tape n.toNat) j) : ∀ j : Nat, (j : Int) < n → one j = other j := fun j hj => by
  have h3 := h1 j hj
  have h4 := h2 j hj
  rw [show ((s : Int) + r).toNat = s + r.toNat by omega, ho j hj] at h4
  rw [show ((s : Nat) : Int).toNat = s by omega] at h3
  rw [h3, h4]
