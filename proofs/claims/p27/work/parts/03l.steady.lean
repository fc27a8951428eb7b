-- steady rows
def mulN (d : Int) : Nat → Int
  | 0 => 0
  | n + 1 => mulN d n + d
def gsP (f : Nat → Int) (d : Int) (j : Nat) : Nat → Nat × Int
  | 0 => (2, f j)
  | t + 1 => if f (j + 1 + t) - (gsP f d j t).2 = d then ((gsP f d j t).1 + 1, f (j + 1 + t)) else gsP f d j t
theorem gsP_s (f : Nat → Int) (d : Int) (j t : Nat) : (f (j + 1 + t) - (gsP f d j t).2 = d ∧ (gsP f d j (t + 1)).1 = (gsP f d j t).1 + 1 ∧ (gsP f d j (t + 1)).2 = f (j + 1 + t)) ∨ (f (j + 1 + t) - (gsP f d j t).2 ≠ d ∧ (gsP f d j (t + 1)).1 = (gsP f d j t).1 ∧ (gsP f d j (t + 1)).2 = (gsP f d j t).2) := by
  have e : gsP f d j (t + 1) = if f (j + 1 + t) - (gsP f d j t).2 = d then ((gsP f d j t).1 + 1, f (j + 1 + t)) else gsP f d j t := rfl
  by_cases h : f (j + 1 + t) - (gsP f d j t).2 = d
  · rw [e, if_pos h]; exact Or.inl ⟨h, rfl, rfl⟩
  · rw [e, if_neg h]; exact Or.inr ⟨h, rfl, rfl⟩
theorem gsP_l (f : Nat → Int) (d : Int) (j t : Nat) : 2 ≤ (gsP f d j t).1 ∧ (gsP f d j t).1 ≤ t + 2 ∧ (gsP f d j t).2 = f j + mulN d ((gsP f d j t).1 - 2) := by
  induction t with
  | zero => exact ⟨Nat.le_refl 2, Nat.le_refl 2, (Int.add_zero _).symm⟩
  | succ t ih =>
    obtain ⟨h1, h2, h3⟩ := ih
    rcases gsP_s f d j t with ⟨g1, g2, g3⟩ | ⟨g1, g2, g3⟩
    · refine ⟨by omega, by omega, ?_⟩
      rw [g2, g3, show (gsP f d j t).1 + 1 - 2 = ((gsP f d j t).1 - 2) + 1 by omega]
      show f (j + 1 + t) = f j + (mulN d ((gsP f d j t).1 - 2) + d)
      omega
    · rw [g2, g3]; exact ⟨h1, by omega, h3⟩
theorem gsP_mono (f : Nat → Int) (d : Int) (j t u : Nat) (h : t ≤ u) : (gsP f d j t).1 ≤ (gsP f d j u).1 := by
  have key : ∀ k : Nat, (gsP f d j t).1 ≤ (gsP f d j (t + k)).1 := by
    intro k
    induction k with
    | zero => exact Nat.le_refl _
    | succ k ih =>
      have h1 := gsP_s f d j (t + k)
      rw [show t + (k + 1) = t + k + 1 by omega]
      omega
  have h1 := key (u - t)
  rw [show t + (u - t) = u by omega] at h1
  exact h1
theorem gsP_c {f g : Nat → Int} (d : Int) {j n : Nat} (h : ∀ i : Nat, i < n → f i = g i) (hj : j < n) : ∀ t : Nat, j + t < n → gsP f d j t = gsP g d j t := by
  intro t
  induction t with
  | zero => intro _; show (2, f j) = (2, g j); rw [h j hj]
  | succ t ih =>
    intro ht
    show (if f (j + 1 + t) - (gsP f d j t).2 = d then ((gsP f d j t).1 + 1, f (j + 1 + t)) else gsP f d j t) = (if g (j + 1 + t) - (gsP g d j t).2 = d then ((gsP g d j t).1 + 1, g (j + 1 + t)) else gsP g d j t)
    rw [ih (by omega), h (j + 1 + t) (by omega)]
/-- how long from two of them on -/
def gsG (f : Nat → Int) (n i j : Nat) : Int := ((gsP f (f j - f i) j (n - 1 - j)).1 : Nat)
def lsI (f : Nat → Int) (n i : Nat) (m : Int) (k : Nat) : Int := fz (fun t m => mx m (gsG f n i (i + 1 + t))) m k
def lsO (f : Nat → Int) (n k : Nat) : Int := fz (fun i m => lsI f n i m (n - 1 - i)) 1 k
theorem lsI_s (f : Nat → Int) (n i : Nat) (m : Int) (k : Nat) : lsI f n i m (k + 1) = mx (lsI f n i m k) (gsG f n i (i + 1 + k)) := rfl
theorem lsO_s (f : Nat → Int) (n : Nat) {x : Int} (h : 0 ≤ x) : lsO f n (x + 1).toNat = lsI f n x.toNat (lsO f n x.toNat) (n - 1 - x.toNat) := fz_s _ _ h
theorem lsI_p (f : Nat → Int) (n i : Nat) (m : Int) : ∀ k : Nat, m ≤ lsI f n i m k ∧ (∀ t : Nat, t < k → gsG f n i (i + 1 + t) ≤ lsI f n i m k) ∧ (lsI f n i m k = m ∨ ∃ t : Nat, t < k ∧ lsI f n i m k = gsG f n i (i + 1 + t)) := by
  intro k
  induction k with
  | zero => exact ⟨Int.le_refl _, fun t ht => absurd ht (Nat.not_lt_zero t), Or.inl rfl⟩
  | succ k ih =>
    obtain ⟨h1, h2, h3⟩ := ih
    have e := mx_e (lsI f n i m k) (gsG f n i (i + 1 + k))
    rw [lsI_s]
    refine ⟨by omega, fun t ht => ?_, ?_⟩
    · rcases (show t < k ∨ t = k by omega) with g | g
      · have := h2 t g; omega
      · rw [g]; omega
    · rcases e with ⟨_, e2⟩ | ⟨_, e2⟩
      · exact Or.inr ⟨k, by omega, e2⟩
      · rcases h3 with h3 | ⟨t, ht, h3⟩
        · exact Or.inl (by omega)
        · exact Or.inr ⟨t, by omega, by omega⟩
theorem lsO_p (f : Nat → Int) (n : Nat) : ∀ k : Nat, k ≤ n → 1 ≤ lsO f n k ∧ (∀ i j : Nat, i < k → i < j → j < n → gsG f n i j ≤ lsO f n k) ∧ (lsO f n k = 1 ∨ ∃ i j : Nat, i < j ∧ j < n ∧ lsO f n k = gsG f n i j) := by
  intro k
  induction k with
  | zero => intro _; exact ⟨Int.le_refl 1, fun i j h => absurd h (Nat.not_lt_zero i), Or.inl rfl⟩
  | succ k ih =>
    intro hk
    obtain ⟨h1, h2, h3⟩ := ih (by omega)
    have e : lsO f n (k + 1) = lsI f n k (lsO f n k) (n - 1 - k) := rfl
    obtain ⟨g1, g2, g3⟩ := lsI_p f n k (lsO f n k) (n - 1 - k)
    rw [e]
    refine ⟨by omega, fun i j hi hij hj => ?_, ?_⟩
    · rcases (show i < k ∨ i = k by omega) with q | q
      · have := h2 i j q hij hj; omega
      · subst q
        have h4 := g2 (j - i - 1) (by omega)
        rw [show i + 1 + (j - i - 1) = j by omega] at h4
        exact h4
    · rcases g3 with g3 | ⟨t, ht, g3⟩
      · rcases h3 with h3 | ⟨i, j, a1, a2, a3⟩
        · exact Or.inl (by omega)
        · exact Or.inr ⟨i, j, a1, a2, by omega⟩
      · exact Or.inr ⟨k, k + 1 + t, by omega, by omega, g3⟩
theorem gsG_c {f g : Nat → Int} {n i j : Nat} (h : ∀ i : Nat, i < n → f i = g i) (hi : i < n) (hj : j < n) : gsG f n i j = gsG g n i j := by
  unfold gsG
  rw [h i hi, h j hj, gsP_c _ h hj _ (by omega)]
theorem lsI_c {f g : Nat → Int} {n i : Nat} (h : ∀ i : Nat, i < n → f i = g i) (hi : i < n) (m : Int) : lsI f n i m (n - 1 - i) = lsI g n i m (n - 1 - i) := fz_c _ _ (fun t ht m => by rw [gsG_c h hi (by omega)])
theorem lsO_c {f g : Nat → Int} {n : Nat} (h : ∀ i : Nat, i < n → f i = g i) : lsO f n n = lsO g n n := fz_c _ _ (fun i hi m => lsI_c h hi m)
/-- the reference's row of lengths that go on by d -/
def SDp (f : Nat → Int) (d : Int) (n : Nat) (u : Nat → Int) : Prop := ∀ k : Nat, k < n → 1 ≤ u k ∧ (∀ e : Nat, e < k → f k - f e = d → u e + 1 ≤ u k) ∧ (u k = 1 ∨ ∃ e : Nat, e < k ∧ f k - f e = d ∧ u k = u e + 1)
theorem SDp.le {f : Nat → Int} {d : Int} {n : Nat} {u : Nat → Int} (h : SDp f d n u) {i j : Nat} (hij : i < j) (hj : j < n) (hd : f j - f i = d) : ∀ t : Nat, j + t < n → ∃ p : Nat, p ≤ j + t ∧ f p = (gsP f d j t).2 ∧ (((gsP f d j t).1 : Nat) : Int) ≤ u p := by
  intro t
  induction t with
  | zero =>
    intro _
    refine ⟨j, Nat.le_refl _, rfl, ?_⟩
    have h1 := (h j hj).2.1 i hij hd
    have h2 := (h i (by omega)).1
    show (((2 : Nat)) : Int) ≤ u j
    omega
  | succ t ih =>
    intro ht
    obtain ⟨p, p1, p2, p3⟩ := ih (by omega)
    rcases gsP_s f d j t with ⟨g1, g2, g3⟩ | ⟨g1, g2, g3⟩
    · refine ⟨j + 1 + t, by omega, g3.symm, ?_⟩
      have h1 := (h (j + 1 + t) (by omega)).2.1 p (by omega) (by rw [p2]; exact g1)
      rw [g2]; omega
    · exact ⟨p, by omega, by rw [g3]; exact p2, by rw [g2]; exact p3⟩
theorem SDp.ex {f : Nat → Int} {d : Int} {n : Nat} {u : Nat → Int} (h : SDp f d n u) : ∀ k : Nat, k < n → u k = 1 ∨ ∃ (i j m : Nat), i < j ∧ j ≤ k ∧ f j - f i = d ∧ (m : Int) = u k ∧ 2 ≤ m ∧ m ≤ (gsP f d j (k - j)).1 ∧ f k = f j + mulN d (m - 2) := by
  intro k
  induction k using Nat.strongRecOn with
  | ind k ih =>
    intro hk
    rcases (h k hk).2.2 with h1 | ⟨e, e1, e2, e3⟩
    · exact Or.inl h1
    · rcases ih e e1 (by omega) with h2 | ⟨i, j, m, a1, a2, a3, a4, a5, a6, a7⟩
      · refine Or.inr ⟨e, k, 2, e1, Nat.le_refl k, e2, by omega, Nat.le_refl 2, ?_, ?_⟩
        · exact (gsP_l f d k (k - k)).1
        · show f k = f k + 0; omega
      · refine Or.inr ⟨i, j, m + 1, a1, by omega, a3, by omega, by omega, ?_, ?_⟩
        · have h3 := gsP_mono f d j (e - j) (k - 1 - j) (by omega)
          have h4 := gsP_s f d j (k - 1 - j)
          have h5 := gsP_l f d j (k - 1 - j)
          rw [show j + 1 + (k - 1 - j) = k by omega] at h4
          rw [show k - j = k - 1 - j + 1 by omega]
          rcases (show m + 1 ≤ (gsP f d j (k - 1 - j)).1 ∨ (gsP f d j (k - 1 - j)).1 = m by omega) with q | q
          · omega
          · rw [q] at h5
            rcases h4 with ⟨b1, b2, _⟩ | ⟨b1, _, _⟩
            · omega
            · exact absurd (by rw [h5.2.2, ← a7]; exact e2) b1
        · rw [show m + 1 - 2 = (m - 2) + 1 by omega]
          show f k = f j + (mulN d (m - 2) + d)
          omega
theorem st_main {f : Nat → Int} {n : Nat} {r : Int} (hf : ∀ i : Nat, i < n → 0 ≤ f i ∧ f i ≤ 255) (h1 : 1 ≤ r) (h2 : ∀ d : Int, -255 ≤ d → d < 256 → ∃ u : Nat → Int, SDp f d n u ∧ ∀ k : Nat, k < n → u k ≤ r) (h3 : r = 1 ∨ ∃ (d : Int) (u : Nat → Int) (k : Nat), SDp f d n u ∧ k < n ∧ r = u k) : r = lsO f n n := by
  obtain ⟨p1, p2, p3⟩ := lsO_p f n n (Nat.le_refl n)
  have ge : lsO f n n ≤ r := by
    rcases p3 with p3 | ⟨i, j, a1, a2, a3⟩
    · omega
    · have b1 := hf i (by omega)
      have b2 := hf j a2
      obtain ⟨u, q1, q2⟩ := h2 (f j - f i) (by omega) (by omega)
      obtain ⟨p, c1, _, c3⟩ := q1.le a1 a2 rfl (n - 1 - j) (by omega)
      have c4 := q2 p (by omega)
      rw [a3]
      unfold gsG
      omega
  have le : r ≤ lsO f n n := by
    rcases h3 with h3 | ⟨d, u, k, q1, q2, q3⟩
    · omega
    · rcases q1.ex k q2 with c | ⟨i, j, m, a1, a2, a3, a4, a5, a6, a7⟩
      · omega
      · have c1 := p2 i j (by omega) a1 (by omega)
        have c2 := gsP_mono f d j (k - j) (n - 1 - j) (by omega)
        unfold gsG at c1
        rw [a3] at c1
        omega
  omega
-- unsteady rows
def unP (f : Nat → Int) : Nat → Int × Int
  | 0 => (1, 1)
  | k + 1 => if f k < f (k + 1) then ((unP f k).2 + 1, (unP f k).2) else if f (k + 1) < f k then ((unP f k).1, (unP f k).1 + 1) else unP f k
theorem unP_s (f : Nat → Int) (k : Nat) : (f k < f (k + 1) ∧ (unP f (k + 1)).1 = (unP f k).2 + 1 ∧ (unP f (k + 1)).2 = (unP f k).2) ∨ (f (k + 1) < f k ∧ (unP f (k + 1)).1 = (unP f k).1 ∧ (unP f (k + 1)).2 = (unP f k).1 + 1) ∨ (f k = f (k + 1) ∧ (unP f (k + 1)).1 = (unP f k).1 ∧ (unP f (k + 1)).2 = (unP f k).2) := by
  have e : unP f (k + 1) = if f k < f (k + 1) then ((unP f k).2 + 1, (unP f k).2) else if f (k + 1) < f k then ((unP f k).1, (unP f k).1 + 1) else unP f k := rfl
  by_cases h : f k < f (k + 1)
  · rw [e, if_pos h]; exact Or.inl ⟨h, rfl, rfl⟩
  · rw [e, if_neg h]
    by_cases h2 : f (k + 1) < f k
    · rw [if_pos h2]; exact Or.inr (Or.inl ⟨h2, rfl, rfl⟩)
    · rw [if_neg h2]; exact Or.inr (Or.inr ⟨by omega, rfl, rfl⟩)
theorem unP_c {f g : Nat → Int} {n : Nat} (h : ∀ i : Nat, i < n → f i = g i) : ∀ k : Nat, k < n → unP f k = unP g k := by
  intro k
  induction k with
  | zero => intro _; rfl
  | succ k ih =>
    intro hk
    show (if f k < f (k + 1) then ((unP f k).2 + 1, (unP f k).2) else if f (k + 1) < f k then ((unP f k).1, (unP f k).1 + 1) else unP f k) = (if g k < g (k + 1) then ((unP g k).2 + 1, (unP g k).2) else if g (k + 1) < g k then ((unP g k).1, (unP g k).1 + 1) else unP g k)
    rw [ih (by omega), h k (by omega), h (k + 1) hk]
def unF (f : Nat → Int) (n : Nat) : Int := mx (unP f (n - 1)).1 (unP f (n - 1)).2
def UDp (f : Nat → Int) (n : Nat) (u d : Nat → Int) : Prop := ∀ k : Nat, k < n → (1 ≤ u k ∧ (∀ e : Nat, e < k → f e < f k → d e + 1 ≤ u k) ∧ (u k = 1 ∨ ∃ e : Nat, e < k ∧ f e < f k ∧ u k = d e + 1)) ∧ (1 ≤ d k ∧ (∀ e : Nat, e < k → f k < f e → u e + 1 ≤ d k) ∧ (d k = 1 ∨ ∃ e : Nat, e < k ∧ f k < f e ∧ d k = u e + 1))
theorem un_inv {f : Nat → Int} {n : Nat} {u d : Nat → Int} (h : UDp f n u d) : ∀ k : Nat, k < n → (∀ e : Nat, e ≤ k → u e ≤ (unP f k).1 ∧ d e ≤ (unP f k).2) ∧ (∃ e : Nat, e ≤ k ∧ u e = (unP f k).1 ∧ f k ≤ f e) ∧ (∃ e : Nat, e ≤ k ∧ d e = (unP f k).2 ∧ f e ≤ f k) ∧ (unP f k).1 ≤ (unP f k).2 + 1 ∧ (unP f k).2 ≤ (unP f k).1 + 1 := by
  intro k
  induction k with
  | zero =>
    intro hk
    have hu : u 0 = 1 := by
      rcases (h 0 hk).1.2.2 with q | ⟨e, he, _⟩
      · exact q
      · exact absurd he (Nat.not_lt_zero e)
    have hd : d 0 = 1 := by
      rcases (h 0 hk).2.2.2 with q | ⟨e, he, _⟩
      · exact q
      · exact absurd he (Nat.not_lt_zero e)
    have e1 : (unP f 0).1 = 1 := rfl
    have e2 : (unP f 0).2 = 1 := rfl
    rw [e1, e2]
    refine ⟨fun e he => ?_, ⟨0, Nat.le_refl 0, hu, Int.le_refl _⟩, ⟨0, Nat.le_refl 0, hd, Int.le_refl _⟩, by decide, by decide⟩
    obtain rfl : e = 0 := by omega
    omega
  | succ k ih =>
    intro hk
    obtain ⟨i1, ⟨a, a1, a2, a3⟩, ⟨b, b1, b2, b3⟩, i4, i5⟩ := ih (by omega)
    obtain ⟨⟨u1, u2, u3⟩, ⟨d1, d2, d3⟩⟩ := h (k + 1) hk
    obtain ⟨⟨v1, v2, v3⟩, ⟨w1, w2, w3⟩⟩ := h k (by omega)
    have j0 := i1 k (Nat.le_refl k)
    rcases unP_s f k with ⟨c, s1, s2⟩ | ⟨c, s1, s2⟩ | ⟨c, s1, s2⟩
    · have g1 := u2 b (by omega) (by omega)
      have g2 : u (k + 1) ≤ (unP f k).2 + 1 := by
        rcases u3 with q | ⟨e, e1, e2, e3⟩
        · omega
        · have := (i1 e (by omega)).2; omega
      have g3 : d (k + 1) ≤ (unP f k).2 := by
        rcases d3 with q | ⟨e, e1, e2, e3⟩
        · omega
        · have e4 : e < k := by
            rcases (show e < k ∨ e = k by omega) with q | q
            · exact q
            · subst q; omega
          have := w2 e e4 (by omega); omega
      rw [s1, s2]
      refine ⟨fun e he => ?_, ⟨k + 1, Nat.le_refl _, by omega, Int.le_refl _⟩, ⟨b, by omega, b2, by omega⟩, by omega, by omega⟩
      rcases (show e ≤ k ∨ e = k + 1 by omega) with q | q
      · have := i1 e q; omega
      · subst q; omega
    · have g1 := d2 a (by omega) (by omega)
      have g2 : d (k + 1) ≤ (unP f k).1 + 1 := by
        rcases d3 with q | ⟨e, e1, e2, e3⟩
        · omega
        · have := (i1 e (by omega)).1; omega
      have g3 : u (k + 1) ≤ (unP f k).1 := by
        rcases u3 with q | ⟨e, e1, e2, e3⟩
        · omega
        · have e4 : e < k := by
            rcases (show e < k ∨ e = k by omega) with q | q
            · exact q
            · subst q; omega
          have := v2 e e4 (by omega); omega
      rw [s1, s2]
      refine ⟨fun e he => ?_, ⟨a, by omega, a2, by omega⟩, ⟨k + 1, Nat.le_refl _, by omega, Int.le_refl _⟩, by omega, by omega⟩
      rcases (show e ≤ k ∨ e = k + 1 by omega) with q | q
      · have := i1 e q; omega
      · subst q; omega
    · have g2 : d (k + 1) ≤ (unP f k).2 := by
        rcases d3 with q | ⟨e, e1, e2, e3⟩
        · omega
        · have e4 : e < k := by
            rcases (show e < k ∨ e = k by omega) with q | q
            · exact q
            · subst q; omega
          have := w2 e e4 (by omega); omega
      have g3 : u (k + 1) ≤ (unP f k).1 := by
        rcases u3 with q | ⟨e, e1, e2, e3⟩
        · omega
        · have e4 : e < k := by
            rcases (show e < k ∨ e = k by omega) with q | q
            · exact q
            · subst q; omega
          have := v2 e e4 (by omega); omega
      rw [s1, s2]
      refine ⟨fun e he => ?_, ⟨a, by omega, a2, by omega⟩, ⟨b, by omega, b2, by omega⟩, i4, i5⟩
      rcases (show e ≤ k ∨ e = k + 1 by omega) with q | q
      · exact i1 e q
      · subst q; omega
theorem un_main {f : Nat → Int} {n : Nat} {u d : Nat → Int} {r : Int} (h : UDp f n u d) (hn : 1 ≤ n) (h1 : 1 ≤ r) (h2 : ∀ k : Nat, k < n → u k ≤ r ∧ d k ≤ r) (h3 : r = 1 ∨ ∃ k : Nat, k < n ∧ (r = u k ∨ r = d k)) : r = unF f n := by
  obtain ⟨i1, ⟨a, a1, a2, a3⟩, ⟨b, b1, b2, b3⟩, i4, i5⟩ := un_inv h (n - 1) (by omega)
  have e := mx_e (unP f (n - 1)).1 (unP f (n - 1)).2
  have g1 := (h2 a (by omega)).1
  have g2 := (h2 b (by omega)).2
  have g3 := (h a (by omega)).1.1
  unfold unF
  rcases h3 with h3 | ⟨k, hk, h3⟩
  · omega
  · have g4 := i1 k (by omega)
    omega
def stF (f : Nat → Int) (n what : Int) : Int := if what = 0 then lsO f n.toNat n.toNat else unF f n.toNat
theorem stF_e (f : Nat → Int) (n what : Int) : (what = 0 ∧ stF f n what = lsO f n.toNat n.toNat) ∨ (what ≠ 0 ∧ stF f n what = unF f n.toNat) := by
  by_cases h : what = 0
  · exact Or.inl ⟨h, if_pos h⟩
  · exact Or.inr ⟨h, if_neg h⟩
theorem stF_c {f g : Nat → Int} {n : Int} (what : Int) (hn : 1 ≤ n) (h : ∀ j : Nat, (j : Int) < n → f j = g j) : stF f n what = stF g n what := by
  have h2 := toN_c h
  unfold stF unF
  rw [lsO_c h2, unP_c h2 (n.toNat - 1) (by omega)]
/-- the reference's loop: one of them, over those ahead of x -/
def SDi (f : Nat → Int) (d : Int) (c : Nat) (u : Nat → Int) (x : Int) : Prop := (1 ≤ u c ∧ u c ≤ x + 1) ∧ (∀ e : Nat, (e : Int) < x → f c - f e = d → u e + 1 ≤ u c) ∧ (u c = 1 ∨ ∃ e : Nat, (e : Int) < x ∧ f c - f e = d ∧ u c = u e + 1)
theorem SDi.ini {f u u1 : Nat → Int} {d : Int} {c p : Nat} (h : u1 = updZ u p 1) (hp : p = c) : SDi f d c u1 0 := by
  subst hp
  rw [h]
  refine ⟨?_, fun e he => absurd he (by omega), Or.inl (updZ_s _ _ _)⟩
  rw [updZ_s]; exact ⟨by decide, by decide⟩
theorem SDi.step {f u u1 : Nat → Int} {d t x : Int} {c p : Nat} (h : SDi f d c u x) (hx : 0 ≤ x ∧ x < (c : Int)) (hb : u x.toNat ≤ x + 1) (hst : (f c - f x.toNat ≠ d ∧ u1 = u) ∨ (f c - f x.toNat = d ∧ u1 = updZ u p t ∧ p = c ∧ ((t = u c ∧ u x.toNat + 1 ≤ u c) ∨ (t = u x.toNat + 1 ∧ u c ≤ u x.toNat + 1)))) : SDi f d c u1 (x + 1) := by
  obtain ⟨h1, h2, h3⟩ := h
  rcases hst with ⟨s1, s2⟩ | ⟨s1, s2, s3, s4⟩
  · rw [s2]
    refine ⟨by omega, fun e he hd => ?_, ?_⟩
    · rcases (show (e : Int) < x ∨ e = x.toNat by omega) with q | q
      · exact h2 e q hd
      · rw [q] at hd; exact absurd hd s1
    · rcases h3 with h3 | ⟨e, e1, e2, e3⟩
      · exact Or.inl h3
      · exact Or.inr ⟨e, by omega, e2, e3⟩
  · subst s3
    rw [s2]
    have ho : ∀ e : Nat, (e : Int) < x + 1 → updZ u p t e = u e := fun e he => updZ_n _ _ (by omega)
    refine ⟨?_, fun e he hd => ?_, ?_⟩
    · rw [updZ_s]; omega
    · rw [ho e he, updZ_s]
      rcases (show (e : Int) < x ∨ e = x.toNat by omega) with q | q
      · have := h2 e q hd; omega
      · rw [q]; omega
    · rw [updZ_s]
      rcases s4 with ⟨q1, q2⟩ | ⟨q1, q2⟩
      · rcases h3 with h3 | ⟨e, e1, e2, e3⟩
        · exact Or.inl (by omega)
        · exact Or.inr ⟨e, by omega, e2, by rw [ho e (by omega)]; omega⟩
      · exact Or.inr ⟨x.toNat, by omega, s1, by rw [ho _ (by omega)]; exact q1⟩
theorem SDp.add {f u u0 : Nat → Int} {d x : Int} (h0 : SDp f d x.toNat u0) (hx : 0 ≤ x) (ho : ∀ k : Nat, k ≠ x.toNat → u k = u0 k) (h : SDi f d x.toNat u x) : SDp f d (x + 1).toNat u := by
  intro k hk
  rcases (show k < x.toNat ∨ k = x.toNat by omega) with q | q
  · obtain ⟨a1, a2, a3⟩ := h0 k q
    rw [ho k (by omega)]
    refine ⟨a1, fun e he hd => by rw [ho e (by omega)]; exact a2 e he hd, ?_⟩
    rcases a3 with a3 | ⟨e, e1, e2, e3⟩
    · exact Or.inl a3
    · exact Or.inr ⟨e, e1, e2, by rw [ho e (by omega)]; exact e3⟩
  · subst q
    obtain ⟨a1, a2, a3⟩ := h
    refine ⟨a1.1, fun e he hd => a2 e (by omega) hd, ?_⟩
    rcases a3 with a3 | ⟨e, e1, e2, e3⟩
    · exact Or.inl a3
    · exact Or.inr ⟨e, by omega, e2, e3⟩
theorem SDp.nil (f : Nat → Int) (d : Int) (u : Nat → Int) : SDp f d (0 : Int).toNat u := fun k hk => absurd hk (Nat.not_lt_zero k)
/-- the most so far -/
def MXp (u : Nat → Int) (x m : Int) : Prop := (1 ≤ m ∧ m ≤ x + 1) ∧ (∀ k : Nat, (k : Int) < x → u k ≤ m ∧ u k ≤ (k : Int) + 1) ∧ (m = 1 ∨ ∃ k : Nat, (k : Int) < x ∧ m = u k)
theorem MXp.ini (u : Nat → Int) : MXp u 0 1 := ⟨⟨by decide, by decide⟩, fun k hk => absurd hk (by omega), Or.inl rfl⟩
theorem MXp.step {u u1 : Nat → Int} {x m t v : Int} (h : MXp u x m) (hx : 0 ≤ x) (ho : ∀ k : Nat, k ≠ x.toNat → u1 k = u k) (hv : v = u1 x.toNat) (hr : 1 ≤ v ∧ v ≤ x + 1) (ht : (t = m ∧ v ≤ m) ∨ (t = v ∧ m ≤ v)) : MXp u1 (x + 1) t := by
  obtain ⟨h1, h2, h3⟩ := h
  refine ⟨by clear h3; omega, fun k hk => ?_, ?_⟩
  · rcases (show (k : Int) < x ∨ k = x.toNat by omega) with q | q
    · have := h2 k q; rw [ho k (by omega)]; clear h3; omega
    · rw [q, ← hv]; clear h3; omega
  · rcases ht with ⟨q1, _⟩ | ⟨q1, _⟩
    · rcases h3 with h3 | ⟨k, e1, e2⟩
      · exact Or.inl (by omega)
      · exact Or.inr ⟨k, by omega, by rw [ho k (by omega)]; omega⟩
    · exact Or.inr ⟨x.toNat, by omega, by omega⟩
/-- over the differences -/
def STq (f : Nat → Int) (n : Nat) (x m : Int) : Prop := 1 ≤ m ∧ (∀ d : Int, -255 ≤ d → d < x → ∃ u : Nat → Int, SDp f d n u ∧ ∀ k : Nat, k < n → u k ≤ m) ∧ (m = 1 ∨ ∃ (d : Int) (u : Nat → Int) (k : Nat), SDp f d n u ∧ k < n ∧ m = u k)
theorem STq.ini (f : Nat → Int) (n : Nat) : STq f n (-255) 1 := ⟨by decide, fun d h1 h2 => absurd h1 (by omega), Or.inl rfl⟩
theorem STq.step {f : Nat → Int} {n : Nat} {x m r t : Int} (h : STq f n x m) (hr : ∃ u : Nat → Int, SDp f x n u ∧ (∀ k : Nat, k < n → u k ≤ r) ∧ (r = 1 ∨ ∃ k : Nat, k < n ∧ r = u k)) (ht : (t = m ∧ r ≤ m) ∨ (t = r ∧ m ≤ r)) : STq f n (x + 1) t := by
  obtain ⟨h1, h2, h3⟩ := h
  obtain ⟨u, g1, g2, g3⟩ := hr
  refine ⟨by clear h3 g3; omega, fun d q1 q2 => ?_, ?_⟩
  · rcases (show d < x ∨ d = x by omega) with q | q
    · obtain ⟨v, b1, b2⟩ := h2 d q1 q
      exact ⟨v, b1, fun k hk => by have := b2 k hk; clear h3 g3; omega⟩
    · rw [q]; exact ⟨u, g1, fun k hk => by have := g2 k hk; clear h3 g3; omega⟩
  · rcases ht with ⟨q1, _⟩ | ⟨q1, _⟩
    · rcases h3 with h3 | ⟨d, v, k, b1, b2, b3⟩
      · exact Or.inl (by omega)
      · exact Or.inr ⟨d, v, k, b1, b2, by clear g3; omega⟩
    · rcases g3 with g3 | ⟨k, b1, b2⟩
      · exact Or.inl (by omega)
      · exact Or.inr ⟨x, u, k, g1, b1, by omega⟩
/-- unsteady: one of them, over those ahead of x -/
def UDi (f : Nat → Int) (c : Nat) (u d : Nat → Int) (x : Int) : Prop := ((1 ≤ u c ∧ u c ≤ x + 1) ∧ (∀ e : Nat, (e : Int) < x → f e < f c → d e + 1 ≤ u c) ∧ (u c = 1 ∨ ∃ e : Nat, (e : Int) < x ∧ f e < f c ∧ u c = d e + 1)) ∧ ((1 ≤ d c ∧ d c ≤ x + 1) ∧ (∀ e : Nat, (e : Int) < x → f c < f e → u e + 1 ≤ d c) ∧ (d c = 1 ∨ ∃ e : Nat, (e : Int) < x ∧ f c < f e ∧ d c = u e + 1))
theorem UDi.ini {f u u1 d d1 : Nat → Int} {c p q : Nat} (h : u1 = updZ u p 1) (hp : p = c) (h2 : d1 = updZ d q 1) (hq : q = c) : UDi f c u1 d1 0 := by
  subst hp
  subst hq
  rw [h, h2]
  refine ⟨⟨?_, fun e he => absurd he (by omega), Or.inl (updZ_s _ _ _)⟩, ⟨?_, fun e he => absurd he (by omega), Or.inl (updZ_s _ _ _)⟩⟩
  · rw [updZ_s]; exact ⟨by decide, by decide⟩
  · rw [updZ_s]; exact ⟨by decide, by decide⟩
theorem UDi.step {f u u1 d d1 : Nat → Int} {t s x : Int} {c p q : Nat} (h : UDi f c u d x) (hx : 0 ≤ x ∧ x < (c : Int)) (hb : u x.toNat ≤ x + 1 ∧ d x.toNat ≤ x + 1) (hu : (¬ f x.toNat < f c ∧ u1 = u) ∨ (f x.toNat < f c ∧ u1 = updZ u p t ∧ p = c ∧ ((t = u c ∧ d x.toNat + 1 ≤ u c) ∨ (t = d x.toNat + 1 ∧ u c ≤ d x.toNat + 1)))) (hd : (¬ f c < f x.toNat ∧ d1 = d) ∨ (f c < f x.toNat ∧ d1 = updZ d q s ∧ q = c ∧ ((s = d c ∧ u1 x.toNat + 1 ≤ d c) ∨ (s = u1 x.toNat + 1 ∧ d c ≤ u1 x.toNat + 1)))) : UDi f c u1 d1 (x + 1) := by
  obtain ⟨⟨h1, h2, h3⟩, ⟨g1, g2, g3⟩⟩ := h
  have hou : ∀ e : Nat, (e : Int) < x + 1 → u1 e = u e := fun e he => by
    rcases hu with ⟨_, s2⟩ | ⟨_, s2, s3, _⟩
    · rw [s2]
    · rw [s2, updZ_n _ _ (by omega)]
  have hod : ∀ e : Nat, (e : Int) < x + 1 → d1 e = d e := fun e he => by
    rcases hd with ⟨_, s2⟩ | ⟨_, s2, s3, _⟩
    · rw [s2]
    · rw [s2, updZ_n _ _ (by omega)]
  have huc : (¬ f x.toNat < f c ∧ u1 c = u c) ∨ (f x.toNat < f c ∧ ((u1 c = u c ∧ d x.toNat + 1 ≤ u c) ∨ (u1 c = d x.toNat + 1 ∧ u c ≤ d x.toNat + 1))) := by
    rcases hu with ⟨s1, s2⟩ | ⟨s1, s2, s3, s4⟩
    · exact Or.inl ⟨s1, by rw [s2]⟩
    · subst s3
      rw [s2, updZ_s]
      exact Or.inr ⟨s1, s4⟩
  have hdc : (¬ f c < f x.toNat ∧ d1 c = d c) ∨ (f c < f x.toNat ∧ ((d1 c = d c ∧ u x.toNat + 1 ≤ d c) ∨ (d1 c = u x.toNat + 1 ∧ d c ≤ u x.toNat + 1))) := by
    rcases hd with ⟨s1, s2⟩ | ⟨s1, s2, s3, s4⟩
    · exact Or.inl ⟨s1, by rw [s2]⟩
    · subst s3
      rw [hou x.toNat (by omega)] at s4
      rw [s2, updZ_s]
      exact Or.inr ⟨s1, s4⟩
  refine ⟨⟨by omega, fun e he hf => ?_, ?_⟩, ⟨by omega, fun e he hf => ?_, ?_⟩⟩
  · rw [hod e he]
    rcases (show (e : Int) < x ∨ e = x.toNat by omega) with q | q
    · have := h2 e q hf; omega
    · rw [q] at hf ⊢; omega
  · rcases huc with ⟨q1, q2⟩ | ⟨q1, ⟨q2, _⟩ | ⟨q2, _⟩⟩
    · rcases h3 with h3 | ⟨e, e1, e2, e3⟩
      · exact Or.inl (by omega)
      · exact Or.inr ⟨e, by omega, e2, by rw [hod e (by omega)]; omega⟩
    · rcases h3 with h3 | ⟨e, e1, e2, e3⟩
      · exact Or.inl (by omega)
      · exact Or.inr ⟨e, by omega, e2, by rw [hod e (by omega)]; omega⟩
    · exact Or.inr ⟨x.toNat, by omega, q1, by rw [hod _ (by omega)]; exact q2⟩
  · rw [hou e he]
    rcases (show (e : Int) < x ∨ e = x.toNat by omega) with q | q
    · have := g2 e q hf; omega
    · rw [q] at hf ⊢; omega
  · rcases hdc with ⟨q1, q2⟩ | ⟨q1, ⟨q2, _⟩ | ⟨q2, _⟩⟩
    · rcases g3 with g3 | ⟨e, e1, e2, e3⟩
      · exact Or.inl (by omega)
      · exact Or.inr ⟨e, by omega, e2, by rw [hou e (by omega)]; omega⟩
    · rcases g3 with g3 | ⟨e, e1, e2, e3⟩
      · exact Or.inl (by omega)
      · exact Or.inr ⟨e, by omega, e2, by rw [hou e (by omega)]; omega⟩
    · exact Or.inr ⟨x.toNat, by omega, q1, by rw [hou _ (by omega)]; exact q2⟩
theorem UDp.add {f u u0 d d0 : Nat → Int} {x : Int} (h0 : UDp f x.toNat u0 d0) (hx : 0 ≤ x) (ho : ∀ k : Nat, k ≠ x.toNat → u k = u0 k ∧ d k = d0 k) (h : UDi f x.toNat u d x) : UDp f (x + 1).toNat u d := by
  intro k hk
  rcases (show k < x.toNat ∨ k = x.toNat by omega) with q | q
  · obtain ⟨⟨a1, a2, a3⟩, ⟨b1, b2, b3⟩⟩ := h0 k q
    rw [(ho k (by omega)).1, (ho k (by omega)).2]
    refine ⟨⟨a1, fun e he hd => by rw [(ho e (by omega)).2]; exact a2 e he hd, ?_⟩, ⟨b1, fun e he hd => by rw [(ho e (by omega)).1]; exact b2 e he hd, ?_⟩⟩
    · rcases a3 with a3 | ⟨e, e1, e2, e3⟩
      · exact Or.inl a3
      · exact Or.inr ⟨e, e1, e2, by rw [(ho e (by omega)).2]; exact e3⟩
    · rcases b3 with b3 | ⟨e, e1, e2, e3⟩
      · exact Or.inl b3
      · exact Or.inr ⟨e, e1, e2, by rw [(ho e (by omega)).1]; exact e3⟩
  · subst q
    obtain ⟨⟨a1, a2, a3⟩, ⟨b1, b2, b3⟩⟩ := h
    refine ⟨⟨a1.1, fun e he hd => a2 e (by clear a3 b3; omega) hd, ?_⟩, ⟨b1.1, fun e he hd => b2 e (by clear a3 b3; omega) hd, ?_⟩⟩
    · rcases a3 with a3 | ⟨e, e1, e2, e3⟩
      · exact Or.inl a3
      · exact Or.inr ⟨e, by omega, e2, e3⟩
    · rcases b3 with b3 | ⟨e, e1, e2, e3⟩
      · exact Or.inl b3
      · exact Or.inr ⟨e, by omega, e2, e3⟩
theorem UDp.nil (f u d : Nat → Int) : UDp f (0 : Int).toNat u d := fun k hk => absurd hk (Nat.not_lt_zero k)
def MUp (u d : Nat → Int) (x m : Int) : Prop := (1 ≤ m ∧ m ≤ x + 1) ∧ (∀ k : Nat, (k : Int) < x → (u k ≤ m ∧ d k ≤ m) ∧ (u k ≤ (k : Int) + 1 ∧ d k ≤ (k : Int) + 1)) ∧ (m = 1 ∨ ∃ k : Nat, (k : Int) < x ∧ (m = u k ∨ m = d k))
theorem MUp.ini (u d : Nat → Int) : MUp u d 0 1 := ⟨⟨by decide, by decide⟩, fun k hk => absurd hk (by omega), Or.inl rfl⟩
theorem MUp.step {u u1 d d1 : Nat → Int} {x m t s v w : Int} (h : MUp u d x m) (hx : 0 ≤ x) (ho : ∀ k : Nat, k ≠ x.toNat → u1 k = u k ∧ d1 k = d k) (hv : v = u1 x.toNat) (hw : w = d1 x.toNat) (hr : (1 ≤ v ∧ v ≤ x + 1) ∧ (1 ≤ w ∧ w ≤ x + 1)) (hs : (s = v ∧ w ≤ v) ∨ (s = w ∧ v ≤ w)) (ht : (t = m ∧ s ≤ m) ∨ (t = s ∧ m ≤ s)) : MUp u1 d1 (x + 1) t := by
  obtain ⟨h1, h2, h3⟩ := h
  refine ⟨by clear h3; omega, fun k hk => ?_, ?_⟩
  · rcases (show (k : Int) < x ∨ k = x.toNat by omega) with q | q
    · have := h2 k q; rw [(ho k (by omega)).1, (ho k (by omega)).2]; clear h3; omega
    · rw [q, ← hv, ← hw]; clear h3; omega
  · rcases ht with ⟨q1, _⟩ | ⟨q1, _⟩
    · rcases h3 with h3 | ⟨k, e1, e2⟩
      · exact Or.inl (by omega)
      · exact Or.inr ⟨k, by omega, by rw [(ho k (by omega)).1, (ho k (by omega)).2]; omega⟩
    · exact Or.inr ⟨x.toNat, by omega, by clear h3; omega⟩
/-- some thing is below itself (told as one word) -/
def ngF (f : Nat → Int) : Prop := ∃ t : Nat, t < 12 ∧ f (13 * t) < 0
theorem ngF.i {f : Nat → Int} {t : Nat} (h : t < 12) (h2 : f (13 * t) < 0) : ngF f := ⟨t, h, h2⟩
/-- cB by another name, where a class's variable hides it -/
abbrev cBx (P : Int → Int) : Nat → Int := cB P
