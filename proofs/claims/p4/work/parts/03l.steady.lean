-- steady rows
def mulN (d : Int) : Nat → Int
  | 0 => 0
  | n + 1 => mulN d n + d
def gsP (f : Nat → Int) (d : Int) (j : Nat) : Nat → Nat × Int
  | 0 => (2, f j)
  | t + 1 => if f (j + 1 + t) - (gsP f d j t).2 = d then ((gsP f d j t).1 + 1, f (j + 1 + t)) else gsP f d j t
theorem gsP_s (f : Nat → Int) (d : Int) (j t : Nat) : (f (j + 1 + t) - (gsP f d j t).2 = d ∧ (gsP f d j (t + 1)).1 = (gsP f d j t).1 + 1 ∧ (gsP f d j (t + 1)).2 = f (j + 1 + t)) ∨ (f (j + 1 + t) - (gsP f d j t).2 ≠ d ∧ (gsP f d j (t + 1)).1 = (gsP f d j t).1 ∧ (gsP f d j (t + 1)).2 = (gsP f d j t).2) := by
  have e : gsP f d j (t + 1) = if f (j + 1 + t) - (gsP f d j t).2 = d then ((gsP f d j t).1 + 1, f (j + 1 + t)) else gsP f d j t := rfl
  by_cases h : f (j + 1 + t) - (gsP f d j t).2 = d
  · rw [e, if_pos h]; exact Or.inl ⟨h, rfl, rfl⟩
  · rw [e, if_neg h]; exact Or.inr ⟨h, rfl, rfl⟩
theorem gsP_l (f : Nat → Int) (d : Int) (j t : Nat) : 2 ≤ (gsP f d j t).1 ∧ (gsP f d j t).1 ≤ t + 2 ∧ (gsP f d j t).2 = f j + mulN d ((gsP f d j t).1 - 2) := by
  induction t with
  | zero => exact ⟨Nat.le_refl 2, Nat.le_refl 2, (Int.add_zero _).symm⟩
  | succ t ih =>
    obtain ⟨h1, h2, h3⟩ := ih
    rcases gsP_s f d j t with ⟨g1, g2, g3⟩ | ⟨g1, g2, g3⟩
    · refine ⟨by omega, by omega, ?_⟩
      rw [g2, g3, show (gsP f d j t).1 + 1 - 2 = ((gsP f d j t).1 - 2) + 1 by omega]
      show f (j + 1 + t) = f j + (mulN d ((gsP f d j t).1 - 2) + d)
      omega
    · rw [g2, g3]; exact ⟨h1, by omega, h3⟩
theorem gsP_mono (f : Nat → Int) (d : Int) (j t u : Nat) (h : t ≤ u) : (gsP f d j t).1 ≤ (gsP f d j u).1 := by
  have key : ∀ k : Nat, (gsP f d j t).1 ≤ (gsP f d j (t + k)).1 := by
    intro k
    induction k with
    | zero => exact Nat.le_refl _
    | succ k ih =>
      have h1 := gsP_s f d j (t + k)
      rw [show t + (k + 1) = t + k + 1 by omega]
      omega
  have h1 := key (u - t)
  rw [show t + (u - t) = u by omega] at h1
  exact h1
theorem gsP_c {f g : Nat → Int} (d : Int) {j n : Nat} (h : ∀ i : Nat, i < n → f i = g i) (hj : j < n) : ∀ t : Nat, j + t < n → gsP f d j t = gsP g d j t := by
  intro t
  induction t with
  | zero => intro _; show (2, f j) = (2, g j); rw [h j hj]
  | succ t ih =>
    intro ht
    show (if f (j + 1 + t) - (gsP f d j t).2 = d then ((gsP f d j t).1 + 1, f (j + 1 + t)) else gsP f d j t) = (if g (j + 1 + t) - (gsP g d j t).2 = d then ((gsP g d j t).1 + 1, g (j + 1 + t)) else gsP g d j t)
    rw [ih (by omega), h (j + 1 + t) (by omega)]
/-- how long from two of them on -/
def gsG (f : Nat → Int) (n i j : Nat) : Int := ((gsP f (f j - f i) j (n - 1 - j)).1 : Nat)
def lsI (f : Nat → Int) (n i : Nat) (m : Int) (k : Nat) : Int := fz (fun t m => mx m (gsG f n i (i + 1 + t))) m k
def lsO (f : Nat → Int) (n k : Nat) : Int := fz (fun i m => lsI f n i m (n - 1 - i)) 1 k
theorem lsI_s (f : Nat → Int) (n i : Nat) (m : Int) (k : Nat) : lsI f n i m (k + 1) = mx (lsI f n i m k) (gsG f n i (i + 1 + k)) := rfl
theorem lsO_s (f : Nat → Int) (n : Nat) {x : Int} (h : 0 ≤ x) : lsO f n (x + 1).toNat = lsI f n x.toNat (lsO f n x.toNat) (n - 1 - x.toNat) := fz_s _ _ h
theorem lsI_p (f : Nat → Int) (n i : Nat) (m : Int) : ∀ k : Nat, m ≤ lsI f n i m k ∧ (∀ t : Nat, t < k → gsG f n i (i + 1 + t) ≤ lsI f n i m k) ∧ (lsI f n i m k = m ∨ ∃ t : Nat, t < k ∧ lsI f n i m k = gsG f n i (i + 1 + t)) := by
  intro k
  induction k with
  | zero => exact ⟨Int.le_refl _, fun t ht => absurd ht (Nat.not_lt_zero t), Or.inl rfl⟩
  | succ k ih =>
    obtain ⟨h1, h2, h3⟩ := ih
    have e := mx_e (lsI f n i m k) (gsG f n i (i + 1 + k))
    rw [lsI_s]
    refine ⟨by omega, fun t ht => ?_, ?_⟩
    · rcases (show t < k ∨ t = k by omega) with g | g
      · have := h2 t g; omega
      · rw [g]; omega
    · rcases e with ⟨_, e2⟩ | ⟨_, e2⟩
      · exact Or.inr ⟨k, by omega, e2⟩
      · rcases h3 with h3 | ⟨t, ht, h3⟩
        · exact Or.inl (by omega)
        · exact Or.inr ⟨t, by omega, by omega⟩
theorem lsO_p (f : Nat → Int) (n : Nat) : ∀ k : Nat, k ≤ n → 1 ≤ lsO f n k ∧ (∀ i j : Nat, i < k → i < j → j < n → gsG f n i j ≤ lsO f n k) ∧ (lsO f n k = 1 ∨ ∃ i j : Nat, i < j ∧ j < n ∧ lsO f n k = gsG f n i j) := by
  intro k
  induction k with
  | zero => intro _; exact ⟨Int.le_refl 1, fun i j h => absurd h (Nat.not_lt_zero i), Or.inl rfl⟩
  | succ k ih =>
    intro hk
    obtain ⟨h1, h2, h3⟩ := ih (by omega)
    have e : lsO f n (k + 1) = lsI f n k (lsO f n k) (n - 1 - k) := rfl
    obtain ⟨g1, g2, g3⟩ := lsI_p f n k (lsO f n k) (n - 1 - k)
    rw [e]
    refine ⟨by omega, fun i j hi hij hj => ?_, ?_⟩
    · rcases (show i < k ∨ i = k by omega) with q | q
      · have := h2 i j q hij hj; omega
      · subst q
        have h4 := g2 (j - i - 1) (by omega)
        rw [show i + 1 + (j - i - 1) = j by omega] at h4
        exact h4
    · rcases g3 with g3 | ⟨t, ht, g3⟩
      · rcases h3 with h3 | ⟨i, j, a1, a2, a3⟩
        · exact Or.inl (by omega)
        · exact Or.inr ⟨i, j, a1, a2, by omega⟩
      · exact Or.inr ⟨k, k + 1 + t, by omega, by omega, g3⟩
theorem gsG_c {f g : Nat → Int} {n i j : Nat} (h : ∀ i : Nat, i < n → f i = g i) (hi : i < n) (hj : j < n) : gsG f n i j = gsG g n i j := by
  unfold gsG
  rw [h i hi, h j hj, gsP_c _ h hj _ (by omega)]
theorem lsI_c {f g : Nat → Int} {n i : Nat} (h : ∀ i : Nat, i < n → f i = g i) (hi : i < n) (m : Int) : lsI f n i m (n - 1 - i) = lsI g n i m (n - 1 - i) := fz_c _ _ (fun t ht m => by rw [gsG_c h hi (by omega)])
theorem lsO_c {f g : Nat → Int} {n : Nat} (h : ∀ i : Nat, i < n → f i = g i) : lsO f n n = lsO g n n := fz_c _ _ (fun i hi m => lsI_c h hi m)
/-- the reference's row of lengths that go on by d -/
def SDp (f : Nat → Int) (d : Int) (n : Nat) (u : Nat → Int) : Prop := ∀ k : Nat, k < n → 1 ≤ u k ∧ (∀ e : Nat, e < k → f k - f e = d → u e + 1 ≤ u k) ∧ (u k = 1 ∨ ∃ e : Nat, e < k ∧ f k - f e = d ∧ u k = u e + 1)
theorem SDp.le {f : Nat → Int} {d : Int} {n : Nat} {u : Nat → Int} (h : SDp f d n u) {i j : Nat} (hij : i < j) (hj : j < n) (hd : f j - f i = d) : ∀ t : Nat, j + t < n → ∃ p : Nat, p ≤ j + t ∧ f p = (gsP f d j t).2 ∧ (((gsP f d j t).1 : Nat) : Int) ≤ u p := by
  intro t
  induction t with
  | zero =>
    intro _
    refine ⟨j, Nat.le_refl _, rfl, ?_⟩
    have h1 := (h j hj).2.1 i hij hd
    have h2 := (h i (by omega)).1
    show (((2 : Nat)) : Int) ≤ u j
    omega
  | succ t ih =>
    intro ht
    obtain ⟨p, p1, p2, p3⟩ := ih (by omega)
    rcases gsP_s f d j t with ⟨g1, g2, g3⟩ | ⟨g1, g2, g3⟩
    · refine ⟨j + 1 + t, by omega, g3.symm, ?_⟩
      have h1 := (h (j + 1 + t) (by omega)).2.1 p (by omega) (by rw [p2]; exact g1)
      rw [g2]; omega
    · exact ⟨p, by omega, by rw [g3]; exact p2, by rw [g2]; exact p3⟩
theorem SDp.ex {f : Nat → Int} {d : Int} {n : Nat} {u : Nat → Int} (h : SDp f d n u) : ∀ k : Nat, k < n → u k = 1 ∨ ∃ (i j m : Nat), i < j ∧ j ≤ k ∧ f j - f i = d ∧ (m : Int) = u k ∧ 2 ≤ m ∧ m ≤ (gsP f d j (k - j)).1 ∧ f k = f j + mulN d (m - 2) := by
  intro k
  induction k using Nat.strongRecOn with
  | ind k ih =>
    intro hk
    rcases (h k hk).2.2 with h1 | ⟨e, e1, e2, e3⟩
    · exact Or.inl h1
    · rcases ih e e1 (by omega) with h2 | ⟨i, j, m, a1, a2, a3, a4, a5, a6, a7⟩
      · refine Or.inr ⟨e, k, 2, e1, Nat.le_refl k, e2, by omega, Nat.le_refl 2, ?_, ?_⟩
        · exact (gsP_l f d k (k - k)).1
        · show f k = f k + 0; omega
      · refine Or.inr ⟨i, j, m + 1, a1, by omega, a3, by omega, by omega, ?_, ?_⟩
        · have h3 := gsP_mono f d j (e - j) (k - 1 - j) (by omega)
          have h4 := gsP_s f d j (k - 1 - j)
          have h5 := gsP_l f d j (k - 1 - j)
          rw [show j + 1 + (k - 1 - j) = k by omega] at h4
          rw [show k - j = k - 1 - j + 1 by omega]
          rcases (show m + 1 ≤ (gsP f d j (k - 1 - j)).1 ∨ (gsP f d j (k - 1 - j)).1 = m by omega) with q | q
          · omega
          · rw [q] at h5
            rcases h4 with ⟨b1, b2, _⟩ | ⟨b1, _, _⟩
            · omega
            · exact absurd (by rw [h5.2.2, ← a7]; exact e2) b1
        · rw [show m + 1 - 2 = (m - 2) + 1 by omega]
          show f k = f j + (mulN d (m - 2) + d)
          omega
theorem st_main {f : Nat → Int} {n : Nat} {r : Int} (hf : ∀ i : Nat, i < n → 0 ≤ f i ∧ f i ≤ 255) (h1 : 1 ≤ r) (h2 : ∀ d : Int, -255 ≤ d → d < 256 → ∃ u : Nat → Int, SDp f d n u ∧ ∀ k : Nat, k < n → u k ≤ r) (h3 : r = 1 ∨ ∃ (d : Int) (u : Nat → Int) (k : Nat), SDp f d n u ∧ k < n ∧ r = u k) : r = lsO f n n := by
  obtain ⟨p1, p2, p3⟩ := lsO_p f n n (Nat.le_refl n)
  have ge : lsO f n n ≤ r := by
    rcases p3 with p3 | ⟨i, j, a1, a2, a3⟩
    · omega
    · have b1 := hf i (by omega)
      have b2 := hf j a2
      obtain ⟨u, q1, q2⟩ := h2 (f j - f i) (by omega) (by omega)
      obtain ⟨p, c1, _, c3⟩ := q1.le a1 a2 rfl (n - 1 - j) (by omega)
      have c4 := q2 p (by omega)
      rw [a3]
      unfold gsG
      omega
  have le : r ≤ lsO f n n := by
    rcases h3 with h3 | ⟨d, u, k, q1, q2, q3⟩
    · omega
    · rcases q1.ex k q2 with c | ⟨i, j, m, a1, a2, a3, a4, a5, a6, a7⟩
      · omega
      · have c1 := p2 i j (by omega) a1 (by omega)
        have c2 := gsP_mono f d j (k - j) (n - 1 - j) (by omega)
        unfold gsG at c1
        rw [a3] at c1
        omega
  omega
-- unsteady rows
def unP (f : Nat → Int) : Nat → Int × Int
  | 0 => (1, 1)
  | k + 1 => if f k < f (k + 1) then ((unP f k).2 + 1, (unP f k).2) else if f (k + 1) < f k then ((unP f k).1, (unP f k).1 + 1) else unP f k
theorem unP_s (f : Nat → Int) (k : Nat) : (f k < f (k + 1) ∧ (unP f (k + 1)).1 = (unP f k).2 + 1 ∧ (unP f (k + 1)).2 = (unP f k).2) ∨ (f (k + 1) < f k ∧ (unP f (k + 1)).1 = (unP f k).1 ∧ (unP f (k + 1)).2 = (unP f k).1 + 1) ∨ (f k = f (k + 1) ∧ (unP f (k + 1)).1 = (unP f k).1 ∧ (unP f (k + 1)).2 = (unP f k).2) := by
  have e : unP f (k + 1) = if f k < f (k + 1) then ((unP f k).2 + 1, (unP f k).2) else if f (k + 1) < f k then ((unP f k).1, (unP f k).1 + 1) else unP f k := rfl
  by_cases h : f k < f (k + 1)
  · rw [e, if_pos h]; exact Or.inl ⟨h, rfl, rfl⟩
  · rw [e, if_neg h]
    by_cases h2 : f (k + 1) < f k
    · rw [if_pos h2]; exact Or.inr (Or.inl ⟨h2, rfl, rfl⟩)
    · rw [if_neg h2]; exact Or.inr (Or.inr ⟨by omega, rfl, rfl⟩)
theorem unP_c {f g : Nat → Int} {n : Nat} (h : ∀ i : Nat, i < n → f i = g i) : ∀ k : Nat, k < n → unP f k = unP g k := by
  intro k
  induction k with
  | zero => intro _; rfl
  | succ k ih =>
    intro hk
    show (if f k < f (k + 1) then ((unP f k).2 + 1, (unP f k).2) else if f (k + 1) < f k then ((unP f k).1, (unP f k).1 + 1) else unP f k) = (if g k < g (k + 1) then ((unP g k).2 + 1, (unP g k).2) else if g (k + 1) < g k then ((unP g k).1, (unP g k).1 + 1) else unP g k)
    rw [ih (by omega), h k (by omega), h (k + 1) hk]
def unF (f : Nat → Int) (n : Nat) : Int := mx (unP f (n - 1)).1 (unP f (n - 1)).2
def UDp (f : Nat → Int) (n : Nat) (u d : Nat → Int) : Prop := ∀ k : Nat, k < n → (1 ≤ u k ∧ (∀ e : Nat, e < k → f e < f k → d e + 1 ≤ u k) ∧ (u k = 1 ∨ ∃ e : Nat, e < k ∧ f e < f k ∧ u k = d e + 1)) ∧ (1 ≤ d k ∧ (∀ e : Nat, e < k → f k < f e → u e + 1 ≤ d k) ∧ (d k = 1 ∨ ∃ e : Nat, e < k ∧ f k < f e ∧ d k = u e + 1))
theorem un_inv {f : Nat → Int} {n : Nat} {u d : Nat → Int} (h : UDp f n u d) : ∀ k : Nat, k < n → (∀ e : Nat, e ≤ k → u e ≤ (unP f k).1 ∧ d e ≤ (unP f k).2) ∧ (∃ e : Nat, e ≤ k ∧ u e = (unP f k).1 ∧ f k ≤ f e) ∧ (∃ e : Nat, e ≤ k ∧ d e = (unP f k).2 ∧ f e ≤ f k) ∧ (unP f k).1 ≤ (unP f k).2 + 1 ∧ (unP f k).2 ≤ (unP f k).1 + 1 := by
  intro k
  induction k with
  | zero =>
    intro hk
    have hu : u 0 = 1 := by
      rcases (h 0 hk).1.2.2 with q | ⟨e, he, _⟩
      · exact q
      · exact absurd he (Nat.not_lt_zero e)
    have hd : d 0 = 1 := by
      rcases (h 0 hk).2.2.2 with q | ⟨e, he, _⟩
      · exact q
      · exact absurd he (Nat.not_lt_zero e)
    have e1 : (unP f 0).1 = 1 := rfl
    have e2 : (unP f 0).2 = 1 := rfl
    rw [e1, e2]
    refine ⟨fun e he => ?_, ⟨0, Nat.le_refl 0, hu, Int.le_refl _⟩, ⟨0, Nat.le_refl 0, hd, Int.le_refl _⟩, by decide, by decide⟩
    obtain rfl : e = 0 := by omega
    omega
  | succ k ih =>
    intro hk
    obtain ⟨i1, ⟨a, a1, a2, a3⟩, ⟨b, b1, b2, b3⟩, i4, i5⟩ := ih (by omega)
    obtain ⟨⟨u1, u2, u3⟩, ⟨d1, d2, d3⟩⟩ := h (k + 1) hk
    obtain ⟨⟨v1, v2, v3⟩, ⟨w1, w2, w3⟩⟩ := h k (by omega)
    have j0 := i1 k (Nat.le_refl k)
    rcases unP_s f k with ⟨c, s1, s2⟩ | ⟨c, s1, s2⟩ | ⟨c, s1, s2⟩
    · have g1 := u2 b (by omega) (by omega)
      have g2 : u (k + 1) ≤ (unP f k).2 + 1 := by
        rcases u3 with q | ⟨e, e1, e2, e3⟩
        · omega
        · have := (i1 e (by omega)).2; omega
      have g3 : d (k + 1) ≤ (unP f k).2 := by
        rcases d3 with q | ⟨e, e1, e2, e3⟩
        · omega
        · have e4 : e < k := by
            rcases (show e < k ∨ e = k by omega) with q | q
            · exact q
            · subst q; omega
          have := w2 e e4 (by omega); omega
      rw [s1, s2]
      refine ⟨fun e he => ?_, ⟨k + 1, Nat.le_refl _, by omega, Int.le_refl _⟩, ⟨b, by omega, b2, by omega⟩, by omega, by omega⟩
      rcases (show e ≤ k ∨ e = k + 1 by omega) with q | q
      · have := i1 e q; omega
      · subst q; omega
    · have g1 := d2 a (by omega) (by omega)
      have g2 : d (k + 1) ≤ (unP f k).1 + 1 := by
        rcases d3 with q | ⟨e, e1, e2, e3⟩
        · omega
        · have := (i1 e (by omega)).1; omega
      have g3 : u (k + 1) ≤ (unP f k).1 := by
        rcases u3 with q | ⟨e, e1, e2, e3⟩
        · omega
        · have e4 : e < k := by
            rcases (show e < k ∨ e = k by omega) with q | q
            · exact q
            · subst q; omega
          have := v2 e e4 (by omega); omega
      rw [s1, s2]
      refine ⟨fun e he => ?_, ⟨a, by omega, a2, by omega⟩, ⟨k + 1, Nat.le_refl _, by omega, Int.le_refl _⟩, by omega, by omega⟩
      rcases (show e ≤ k ∨ e = k + 1 by omega) with q | q
      · have := i1 e q; omega
      · subst q; omega
    · have g2 : d (k + 1) ≤ (unP f k).2 := by
        rcases d3 with q | ⟨e, e1, e2, e3⟩
        · omega
        · have e4 : e < k := by
            rcases (show e < k ∨ e = k by omega) with q | q
            · exact q
            · subst q; omega
          have := w2 e e4 (by omega); omega
      have g3 : u (k + 1) ≤ (unP f k).1 := by
        rcases u3 with q | ⟨e, e1, e2, e3⟩
        · omega
        · have e4 : e < k := by
            rcases (show e < k ∨ e = k by omega) with q | q
            · exact q
            · subst q; omega
          have := v2 e e4 (by omega); omega
      rw [s1, s2]
      refine ⟨fun e he => ?_, ⟨a, by omega, a2, by omega⟩, ⟨b, by omega, b2, by omega⟩, i4, i5⟩
      rcases (show e ≤ k ∨ e = k + 1 by omega) with q | q
      · exact i1 e q
      · subst q; omega
theorem un_main {f : Nat → Int} {n : Nat} {u d : Nat → Int} {r : Int} (h : UDp f n u d) (hn : 1 ≤ n) (h1 : 1 ≤ r) (h2 : ∀ k : Nat, k < n → u k ≤ r ∧ d k ≤ r) (h3 : r = 1 ∨ ∃ k : Nat, k < n ∧ (r = u k ∨ r = d k)) : r = unF f n := by
  obtain ⟨i1, ⟨a, a1, a2, a3⟩, ⟨b, b1, b2, b3⟩, i4, i5⟩ := un_inv h (n - 1) (by omega)
  have e := mx_e (unP f (n - 1)).1 (unP f (n - 1)).2
  have g1 := (h2 a (by omega)).1
  have g2 := (h2 b (by omega)).2
  have g3 := (h a (by omega)).1.1
  unfold unF
  rcases h3 with h3 | ⟨k, hk, h3⟩
  · omega
  · have g4 := i1 k (by omega)
    omega
def stF (f : Nat → Int) (n what : Int) : Int := if what = 0 then lsO f n.toNat n.toNat else unF f n.toNat
theorem stF_e (f : Nat → Int) (n what : Int) : (what = 0 ∧ stF f n what = lsO f n.toNat n.toNat) ∨ (what ≠ 0 ∧ stF f n what = unF f n.toNat) := by
  by_cases h : what = 0
  · exact Or.inl ⟨h, if_pos h⟩
  · exact Or.inr ⟨h, if_neg h⟩
theorem stF_c {f g : Nat → Int} {n : Int} (what : Int) (hn : 1 ≤ n) (h : ∀ j : Nat, (j : Int) < n → f j = g j) : stF f n what = stF g n what := by
  have h2 := toN_c h
  unfold stF unF
  rw [lsO_c h2, unP_c h2 (n.toNat - 1) (by omega)]
