def dzA (a : Int) : Int := if a < 0 then -a else a
theorem dzA_e (a : Int) : (a < 0 ∧ dzA a = -a) ∨ (0 ≤ a ∧ dzA a = a) := by
  by_cases h : a < 0
  · exact Or.inl ⟨h, if_pos h⟩
  · exact Or.inr ⟨by omega, if_neg h⟩
-- halves: sums of some without the first one
def smF (f : Nat → Int) (s : Nat) : Nat → Int
  | 0 => 0
  | k + 1 => smF f s k + (if s / 2 ^ k % 2 = 1 then f k else 0)
theorem smF_c {f g : Nat → Int} {s n : Nat} (h : ∀ j : Nat, j < n → f j = g j) : ∀ k : Nat, k ≤ n → smF f s k = smF g s k := by
  intro k
  induction k with
  | zero => intro _; rfl
  | succ k ih =>
    intro hk
    show smF f s k + (if s / 2 ^ k % 2 = 1 then f k else 0) = smF g s k + (if s / 2 ^ k % 2 = 1 then g k else 0)
    rw [ih (by omega), h k (by omega)]
theorem p2_pos (k : Nat) : 0 < 2 ^ k := Nat.pow_pos (by decide)
theorem smF_up (f : Nat → Int) {s n : Nat} : ∀ k : Nat, k ≤ n → smF f (s + 2 ^ n) k = smF f s k := by
  intro k
  induction k with
  | zero => intro _; rfl
  | succ k ih =>
    intro hk
    have e : (s + 2 ^ n) / 2 ^ k % 2 = s / 2 ^ k % 2 := by
      have h1 : 2 ^ n = 2 ^ k * (2 * 2 ^ (n - k - 1)) := by
        rw [← Nat.pow_succ', ← Nat.pow_add]; congr 1; omega
      rw [h1, Nat.add_mul_div_left _ _ (p2_pos k)]
      omega
    show smF f (s + 2 ^ n) k + (if (s + 2 ^ n) / 2 ^ k % 2 = 1 then f k else 0) = smF f s k + (if s / 2 ^ k % 2 = 1 then f k else 0)
    rw [ih (by omega), e]
theorem smF_top (f : Nat → Int) {s n : Nat} (h : s < 2 ^ n) : smF f (s + 2 ^ n) (n + 1) = smF f s n + f n := by
  have e : (s + 2 ^ n) / 2 ^ n % 2 = 1 := by
    rw [Nat.add_div_right _ (p2_pos n), Nat.div_eq_of_lt h]
  show smF f (s + 2 ^ n) n + (if (s + 2 ^ n) / 2 ^ n % 2 = 1 then f n else 0) = smF f s n + f n
  rw [if_pos e, smF_up f n (Nat.le_refl n)]
theorem smF_lo (f : Nat → Int) {s n : Nat} (h : s < 2 ^ n) : smF f s (n + 1) = smF f s n := by
  show smF f s n + (if s / 2 ^ n % 2 = 1 then f n else 0) = smF f s n
  rw [Nat.div_eq_of_lt h, if_neg (by decide), Int.add_zero]
theorem smF_r {f : Nat → Int} {n : Nat} (hf : ∀ j : Nat, j < n → 0 ≤ f j ∧ f j ≤ 255) (s : Nat) : ∀ k : Nat, k ≤ n → 0 ≤ smF f s k ∧ smF f s k ≤ 255 * (k : Int) := by
  intro k
  induction k with
  | zero => intro _; exact ⟨Int.le_refl 0, Int.le_refl 0⟩
  | succ k ih =>
    intro hk
    have h1 := ih (by omega)
    have h2 := hf k (by omega)
    show 0 ≤ smF f s k + (if s / 2 ^ k % 2 = 1 then f k else 0) ∧ smF f s k + (if s / 2 ^ k % 2 = 1 then f k else 0) ≤ 255 * ((k + 1 : Nat) : Int)
    split <;> omega
/-- the least bits by which a sum can be, of those up to the k-th without the first; -1: it can't -/
def lbF (f : Nat → Int) : Nat → (Nat → Int)
  | 0 => fun s => if s = 0 then 0 else -1
  | k + 1 => fun s => if lbF f k s = -1 ∧ f (k + 1) ≤ (s : Int) ∧ lbF f k (s - (f (k + 1)).toNat) ≠ -1 then lbF f k (s - (f (k + 1)).toNat) + ((2 ^ (k + 1) : Nat) : Int) else lbF f k s
theorem lbF_s (f : Nat → Int) (k s : Nat) : ((lbF f k s = -1 ∧ f (k + 1) ≤ (s : Int) ∧ lbF f k (s - (f (k + 1)).toNat) ≠ -1) ∧ lbF f (k + 1) s = lbF f k (s - (f (k + 1)).toNat) + ((2 ^ (k + 1) : Nat) : Int)) ∨ (¬ (lbF f k s = -1 ∧ f (k + 1) ≤ (s : Int) ∧ lbF f k (s - (f (k + 1)).toNat) ≠ -1) ∧ lbF f (k + 1) s = lbF f k s) := by
  have e : lbF f (k + 1) s = if lbF f k s = -1 ∧ f (k + 1) ≤ (s : Int) ∧ lbF f k (s - (f (k + 1)).toNat) ≠ -1 then lbF f k (s - (f (k + 1)).toNat) + ((2 ^ (k + 1) : Nat) : Int) else lbF f k s := rfl
  by_cases h : lbF f k s = -1 ∧ f (k + 1) ≤ (s : Int) ∧ lbF f k (s - (f (k + 1)).toNat) ≠ -1
  · rw [e, if_pos h]; exact Or.inl ⟨h, rfl⟩
  · rw [e, if_neg h]; exact Or.inr ⟨h, rfl⟩
theorem p2_s (k : Nat) : 2 ^ (k + 1) = 2 * 2 ^ k := Nat.pow_succ'
/-- what it is -/
theorem lbF_p {f : Nat → Int} {n : Nat} (hf : ∀ j : Nat, j < n → 0 ≤ f j ∧ f j ≤ 255) : ∀ k : Nat, k + 1 ≤ n → ∀ s : Nat, (lbF f k s = -1 ∨ ∃ m : Nat, lbF f k s = (m : Int) ∧ m < 2 ^ (k + 1) ∧ m % 2 = 0 ∧ smF f m (k + 1) = (s : Int)) ∧ (∀ m : Nat, m < 2 ^ (k + 1) → m % 2 = 0 → smF f m (k + 1) = (s : Int) → lbF f k s ≠ -1 ∧ lbF f k s ≤ (m : Int)) := by
  intro k
  induction k with
  | zero =>
    intro hk s
    have e : lbF f 0 s = if s = 0 then 0 else -1 := rfl
    constructor
    · by_cases h : s = 0
      · refine Or.inr ⟨0, by rw [e, if_pos h]; rfl, by decide, rfl, ?_⟩
        rw [h]
        show (0 : Int) + (if 0 / 2 ^ 0 % 2 = 1 then f 0 else 0) = 0
        rw [if_neg (by decide)]; rfl
      · exact Or.inl (by rw [e, if_neg h])
    · intro m h1 h2 h3
      obtain rfl : m = 0 := by omega
      have h4 : (s : Int) = 0 := by
        rw [← h3]
        show (0 : Int) + (if 0 / 2 ^ 0 % 2 = 1 then f 0 else 0) = 0
        rw [if_neg (by decide)]; rfl
      rw [e, if_pos (by omega)]
      exact ⟨by decide, Int.le_refl _⟩
  | succ k ih =>
    intro hk s
    have hfk := hf (k + 1) (by omega)
    obtain ⟨i1, i2⟩ := ih (by omega) s
    obtain ⟨j1, j2⟩ := ih (by omega) (s - (f (k + 1)).toNat)
    have hp := p2_s (k + 1)
    have hp0 := p2_pos (k + 1)
    have hp1 := p2_s k
    rcases lbF_s f k s with ⟨⟨c1, c2, c3⟩, e⟩ | ⟨c, e⟩
    · rw [e]
      constructor
      · rcases j1 with j1 | ⟨m, a1, a2, a3, a4⟩
        · exact absurd j1 c3
        · refine Or.inr ⟨m + 2 ^ (k + 1), by rw [a1]; norm_cast, by omega, by omega, ?_⟩
          rw [smF_top f a2, a4]
          omega
      · intro m h1 h2 h3
        rcases (show m < 2 ^ (k + 1) ∨ 2 ^ (k + 1) ≤ m by omega) with q | q
        · rw [smF_lo f q] at h3
          exact absurd c1 (i2 m q h2 h3).1
        · obtain ⟨r, hr⟩ : ∃ r : Nat, m = r + 2 ^ (k + 1) := ⟨m - 2 ^ (k + 1), by omega⟩
          have hr1 : r < 2 ^ (k + 1) := by omega
          rw [hr, smF_top f hr1] at h3
          have h4 := j2 r hr1 (by omega) (by omega)
          rcases j1 with j1 | ⟨m2, a1, a2, a3, a4⟩
          · exact absurd j1 c3
          · refine ⟨?_, ?_⟩
            · rw [a1]
              have : (0 : Int) ≤ ((2 ^ (k + 1) : Nat) : Int) := Int.natCast_nonneg _
              omega
            · rw [hr]
              have h5 := h4.2
              have h6 : ((r + 2 ^ (k + 1) : Nat) : Int) = (r : Int) + ((2 ^ (k + 1) : Nat) : Int) := by norm_cast
              omega
    · rw [e]
      constructor
      · rcases i1 with i1 | ⟨m, a1, a2, a3, a4⟩
        · exact Or.inl i1
        · exact Or.inr ⟨m, a1, by omega, a3, by rw [smF_lo f a2]; exact a4⟩
      · intro m h1 h2 h3
        rcases (show m < 2 ^ (k + 1) ∨ 2 ^ (k + 1) ≤ m by omega) with q | q
        · rw [smF_lo f q] at h3
          exact i2 m q h2 h3
        · obtain ⟨r, hr⟩ : ∃ r : Nat, m = r + 2 ^ (k + 1) := ⟨m - 2 ^ (k + 1), by omega⟩
          have hr1 : r < 2 ^ (k + 1) := by omega
          rw [hr, smF_top f hr1] at h3
          have h7 := (smF_r hf r (k + 1) (by omega)).1
          have h4 := j2 r hr1 (by omega) (by omega)
          have h5 : lbF f k s ≠ -1 := fun h => c ⟨h, by omega, h4.1⟩
          refine ⟨h5, ?_⟩
          rcases i1 with i1 | ⟨m2, a1, a2, a3, a4⟩
          · exact absurd i1 h5
          · omega
/-- the evenest of the sums -/
def esF (b : Nat → Int) (w : Int) : Nat → Nat
  | 0 => 0
  | k + 1 => if b (k + 1) ≠ -1 ∧ (dzA (w - 2 * ((k + 1 : Nat) : Int)) < dzA (w - 2 * ((esF b w k : Nat) : Int)) ∨ (dzA (w - 2 * ((k + 1 : Nat) : Int)) = dzA (w - 2 * ((esF b w k : Nat) : Int)) ∧ b (k + 1) < b (esF b w k))) then k + 1 else esF b w k
theorem esF_s (b : Nat → Int) (w : Int) (k : Nat) : ((b (k + 1) ≠ -1 ∧ (dzA (w - 2 * ((k + 1 : Nat) : Int)) < dzA (w - 2 * ((esF b w k : Nat) : Int)) ∨ (dzA (w - 2 * ((k + 1 : Nat) : Int)) = dzA (w - 2 * ((esF b w k : Nat) : Int)) ∧ b (k + 1) < b (esF b w k)))) ∧ esF b w (k + 1) = k + 1) ∨ (¬ (b (k + 1) ≠ -1 ∧ (dzA (w - 2 * ((k + 1 : Nat) : Int)) < dzA (w - 2 * ((esF b w k : Nat) : Int)) ∨ (dzA (w - 2 * ((k + 1 : Nat) : Int)) = dzA (w - 2 * ((esF b w k : Nat) : Int)) ∧ b (k + 1) < b (esF b w k)))) ∧ esF b w (k + 1) = esF b w k) := by
  by_cases h : b (k + 1) ≠ -1 ∧ (dzA (w - 2 * ((k + 1 : Nat) : Int)) < dzA (w - 2 * ((esF b w k : Nat) : Int)) ∨ (dzA (w - 2 * ((k + 1 : Nat) : Int)) = dzA (w - 2 * ((esF b w k : Nat) : Int)) ∧ b (k + 1) < b (esF b w k)))
  · exact Or.inl ⟨h, if_pos h⟩
  · exact Or.inr ⟨h, if_neg h⟩
theorem esF_p {b : Nat → Int} {w : Int} (h0 : b 0 ≠ -1) : ∀ k : Nat, esF b w k ≤ k ∧ b (esF b w k) ≠ -1 ∧ ∀ j : Nat, j ≤ k → b j ≠ -1 → dzA (w - 2 * ((esF b w k : Nat) : Int)) < dzA (w - 2 * (j : Int)) ∨ (dzA (w - 2 * ((esF b w k : Nat) : Int)) = dzA (w - 2 * (j : Int)) ∧ b (esF b w k) ≤ b j) := by
  intro k
  induction k with
  | zero =>
    refine ⟨Nat.le_refl 0, h0, fun j hj _ => ?_⟩
    obtain rfl : j = 0 := by omega
    exact Or.inr ⟨rfl, Int.le_refl _⟩
  | succ k ih =>
    obtain ⟨i1, i2, i3⟩ := ih
    rcases esF_s b w k with ⟨⟨c1, c2⟩, e⟩ | ⟨c, e⟩
    · rw [e]
      refine ⟨Nat.le_refl _, c1, fun j hj hb => ?_⟩
      rcases (show j ≤ k ∨ j = k + 1 by omega) with q | q
      · have := i3 j q hb; omega
      · rw [q]; exact Or.inr ⟨rfl, Int.le_refl _⟩
    · rw [e]
      refine ⟨by omega, i2, fun j hj hb => ?_⟩
      rcases (show j ≤ k ∨ j = k + 1 by omega) with q | q
      · exact i3 j q hb
      · subst q
        rcases (show dzA (w - 2 * ((esF b w k : Nat) : Int)) < dzA (w - 2 * ((k + 1 : Nat) : Int)) ∨ dzA (w - 2 * ((esF b w k : Nat) : Int)) = dzA (w - 2 * ((k + 1 : Nat) : Int)) ∨ dzA (w - 2 * ((k + 1 : Nat) : Int)) < dzA (w - 2 * ((esF b w k : Nat) : Int)) by omega) with g | g | g
        · exact Or.inl g
        · rcases (show b (esF b w k) ≤ b (k + 1) ∨ b (k + 1) < b (esF b w k) by omega) with g2 | g2
          · exact Or.inr ⟨g, g2⟩
          · exact absurd ⟨hb, Or.inr ⟨g.symm, g2⟩⟩ c
        · exact absurd ⟨hb, Or.inl g⟩ c
/-- the reference's search: least and set -/
def HVp (f : Nat → Int) (n : Nat) (w x l b : Int) : Prop := ∃ m : Nat, (b = (m : Int) ∧ b < x) ∧ m < 2 ^ n ∧ m % 2 = 0 ∧ l = dzA (w - 2 * smF f m n) ∧ ∀ q : Nat, (q : Int) < x → q < 2 ^ n → q % 2 = 0 → l < dzA (w - 2 * smF f q n) ∨ (l = dzA (w - 2 * smF f q n) ∧ b ≤ (q : Int))
theorem HVp.ini {f : Nat → Int} {n : Nat} {w l : Int} (h : l = dzA (w - 2 * smF f 0 n)) : HVp f n w 2 l 0 := ⟨0, ⟨rfl, by decide⟩, p2_pos n, rfl, h, fun q h1 _ h3 => by
  obtain rfl : q = 0 := by omega
  exact Or.inr ⟨h, Int.le_refl 0⟩⟩
theorem HVp.step {f : Nat → Int} {n : Nat} {w x l b t l1 b1 : Int} (h : HVp f n w x l b) (hx : 0 ≤ x ∧ x % 2 = 0) (hn : x.toNat < 2 ^ n) (ht : t = dzA (w - 2 * smF f x.toNat n)) (hst : (t < l ∧ l1 = t ∧ b1 = x) ∨ (¬ t < l ∧ l1 = l ∧ b1 = b)) : HVp f n w (x + 2) l1 b1 := by
  obtain ⟨m, ⟨a1, a0⟩, a2, a3, a4, a5⟩ := h
  have hq : ∀ q : Nat, (q : Int) < x + 2 → q % 2 = 0 → (q : Int) < x ∨ q = x.toNat := fun q h1 h2 => by omega
  rcases hst with ⟨s1, s2, s3⟩ | ⟨s1, s2, s3⟩
  · refine ⟨x.toNat, by omega, hn, by omega, by omega, fun q h1 h2 h3 => ?_⟩
    rcases hq q h1 h3 with g | g
    · have := a5 q g h2 h3; omega
    · rw [g]; omega
  · refine ⟨m, by omega, a2, a3, by omega, fun q h1 h2 h3 => ?_⟩
    rcases hq q h1 h3 with g | g
    · have := a5 q g h2 h3; omega
    · rw [g]
      rcases (show l < dzA (w - 2 * smF f x.toNat n) ∨ l = dzA (w - 2 * smF f x.toNat n) by omega) with g1 | g1
      · exact Or.inl (by omega)
      · exact Or.inr ⟨by omega, by omega⟩
def whF (f : Nat → Int) (n : Nat) : Int := fz (fun j a => a + f j) 0 n
theorem whF_s (f : Nat → Int) {x : Int} (h : 0 ≤ x) : whF f (x + 1).toNat = whF f x.toNat + f x.toNat := fz_s _ _ h
theorem whF_r {f : Nat → Int} {n : Nat} (hf : ∀ j : Nat, j < n → 0 ≤ f j ∧ f j ≤ 255) : ∀ k : Nat, k ≤ n → 0 ≤ whF f k ∧ whF f k ≤ 255 * (k : Int) := by
  intro k
  induction k with
  | zero => intro _; exact ⟨Int.le_refl 0, Int.le_refl 0⟩
  | succ k ih =>
    intro hk
    have h1 := ih (by omega)
    have h2 := hf k (by omega)
    have e : whF f (k + 1) = whF f k + f k := rfl
    rw [e]; omega
theorem whF_c {f g : Nat → Int} {n : Nat} (h : ∀ j : Nat, j < n → f j = g j) : whF f n = whF g n := fz_c _ _ (fun k hk a => by rw [h k hk])
theorem lbF_c {f g : Nat → Int} {n : Nat} (h : ∀ j : Nat, j < n → f j = g j) : ∀ k : Nat, k + 1 ≤ n → lbF f k = lbF g k := by
  intro k
  induction k with
  | zero => intro _; rfl
  | succ k ih =>
    intro hk
    unfold lbF
    rw [ih (by omega), h (k + 1) (by omega)]
def hvB (f : Nat → Int) (n : Nat) : Nat := esF (lbF f (n - 1)) (whF f n) 4095
def hvF (f : Nat → Int) (n what : Int) : Int := if what = 0 then dzA (whF f n.toNat - 2 * ((hvB f n.toNat : Nat) : Int)) else lbF f (n.toNat - 1) (hvB f n.toNat)
theorem hvF_e (f : Nat → Int) (n what : Int) : (what = 0 ∧ hvF f n what = dzA (whF f n.toNat - 2 * ((hvB f n.toNat : Nat) : Int))) ∨ (what ≠ 0 ∧ hvF f n what = lbF f (n.toNat - 1) (hvB f n.toNat)) := by
  by_cases h : what = 0
  · exact Or.inl ⟨h, if_pos h⟩
  · exact Or.inr ⟨h, if_neg h⟩
theorem hvF_c {f g : Nat → Int} {n : Int} (what : Int) (hn : 1 ≤ n) (h : ∀ j : Nat, (j : Int) < n → f j = g j) : hvF f n what = hvF g n what := by
  have h2 := toN_c h
  unfold hvF hvB
  rw [whF_c h2, lbF_c h2 (n.toNat - 1) (by omega)]
theorem hv_main {f : Nat → Int} {n : Nat} {x l b : Int} (hn : 2 ≤ n ∧ n ≤ 16) (hf : ∀ j : Nat, j < n → 0 ≤ f j ∧ f j ≤ 255) (h : HVp f n (whF f n) x l b) (hx : ((2 ^ n : Nat) : Int) ≤ x) : l = dzA (whF f n - 2 * ((hvB f n : Nat) : Int)) ∧ b = lbF f (n - 1) (hvB f n) := by
  obtain ⟨m, ⟨a1, _⟩, a2, a3, a4, a5⟩ := h
  have hp := lbF_p hf (n - 1) (by omega)
  rw [show n - 1 + 1 = n by omega] at hp
  have h0 : lbF f (n - 1) 0 ≠ -1 := by
    have z : ∀ k : Nat, smF f 0 k = 0 := by
      intro k
      induction k with
      | zero => rfl
      | succ k ih =>
        show smF f 0 k + (if 0 / 2 ^ k % 2 = 1 then f k else 0) = 0
        rw [ih, Nat.zero_div, if_neg (by decide)]; rfl
    exact ((hp 0).2 0 (p2_pos n) rfl (z n)).1
  obtain ⟨e1, e2, e3⟩ := esF_p (w := whF f n) h0 4095
  -- the class's bits are a set
  obtain ⟨q, q1, q2, q3, q4⟩ : ∃ q : Nat, lbF f (n - 1) (hvB f n) = (q : Int) ∧ q < 2 ^ n ∧ q % 2 = 0 ∧ smF f q n = ((hvB f n : Nat) : Int) := by
    rcases (hp (hvB f n)).1 with g | g
    · exact absurd g e2
    · exact g
  have k1 := a5 q (by omega) q2 q3
  -- the reference's set has a sum
  have r1 := smF_r hf m n (Nat.le_refl n)
  have r2 := (hp (smF f m n).toNat).2 m a2 a3 (by omega)
  have k2 := e3 (smF f m n).toNat (by omega) r2.1
  rw [show (((smF f m n).toNat : Nat) : Int) = smF f m n by omega] at k2
  have e4 : hvB f n = esF (lbF f (n - 1)) (whF f n) 4095 := rfl
  rw [← e4] at k2
  rw [q4] at k1
  omega
theorem esF_c {b b' : Nat → Int} (w : Int) (h : ∀ s : Nat, s < 4096 → b s = b' s) : ∀ k : Nat, k ≤ 4095 → esF b w k = esF b' w k ∧ esF b' w k ≤ k := by
  intro k
  induction k with
  | zero => intro _; exact ⟨rfl, Nat.le_refl 0⟩
  | succ k ih =>
    intro hk
    obtain ⟨i1, i2⟩ := ih (by omega)
    have e : esF b w (k + 1) = esF b' w (k + 1) := by
      unfold esF
      rw [i1, h (k + 1) (by omega), h (esF b' w k) (by omega)]
    refine ⟨e, ?_⟩
    rcases esF_s b' w k with ⟨_, g⟩ | ⟨_, g⟩ <;> omega
