-- walks by what is told of each two; rings
theorem bitl {S j : Nat} (hS : S < 4096) (hj : S.testBit j = true) : j < 12 := by
  rcases (show j < 12 ∨ 12 ≤ j by omega) with h | h
  · exact h
  · have h6 : S.testBit j = false := Nat.testBit_lt_two_pow (Nat.lt_of_lt_of_le hS (Nat.pow_le_pow_right (n := 2) (by decide) h))
    rw [h6] at hj; exact absurd hj (by decide)
def riW (T : Nat → Int) (f : Nat → Nat) : Nat → Int
  | 0 => 0
  | k + 1 => riW T f k + T (12 * f k + f (k + 1))
def riO (T : Nat → Int) (U : Nat) (f : Nat → Nat) (k : Nat) : Prop := ∀ i : Nat, i < k → f i < 12 ∧ f (i + 1) < 12 ∧ U.testBit (f (i + 1)) = true ∧ f i ≠ f (i + 1) ∧ T (12 * f i + f (i + 1)) < 1000000
def riN (T : Nat → Int) (U k s : Nat) : Prop := ∃ f : Nat → Nat, riO T U f k ∧ f 0 = s ∧ f k = s ∧ riW T f k < 0
theorem riW_c {T : Nat → Int} {f g : Nat → Nat} : ∀ k : Nat, (∀ i : Nat, i ≤ k → f i = g i) → riW T f k = riW T g k := by
  intro k
  induction k with
  | zero => intro _; rfl
  | succ k ih => intro h; show riW T f k + T (12 * f k + f (k + 1)) = riW T g k + T (12 * g k + g (k + 1)); rw [ih (fun i hi => h i (by omega)), h k (by omega), h (k + 1) (Nat.le_refl _)]
theorem riO_c {T : Nat → Int} {U : Nat} {f g : Nat → Nat} {k : Nat} (h : ∀ i : Nat, i ≤ k → f i = g i) (hf : riO T U f k) : riO T U g k := fun i hi => by
  have h1 := hf i hi
  rw [h i (by omega), h (i + 1) (by omega)] at h1
  exact h1
theorem riO.le {T : Nat → Int} {U : Nat} {f : Nat → Nat} {k j : Nat} (h : riO T U f k) (hj : j ≤ k) : riO T U f j := fun i hi => h i (by omega)
theorem riO.sub {T : Nat → Int} {U V : Nat} {f : Nat → Nat} {k : Nat} (h : riO T U f k) (hUV : ∀ x : Nat, U.testBit x = true → V.testBit x = true) : riO T V f k := fun i hi => by
  obtain ⟨a, b, c, d⟩ := h i hi
  exact ⟨a, b, hUV _ c, d⟩
theorem ri_b {T : Nat → Int} (hT : TB T) {U : Nat} {f : Nat → Nat} : ∀ k : Nat, riO T U f k → -9999 * (k : Int) ≤ riW T f k ∧ riW T f k ≤ 9999 * (k : Int) := by
  intro k
  induction k with
  | zero => intro _; exact ⟨Int.le_refl 0, Int.le_refl 0⟩
  | succ k ih =>
    intro h
    have h1 := ih (h.le (by omega))
    obtain ⟨a, b, _, _, e⟩ := h k (Nat.lt_succ_self k)
    have h2 := hT (12 * f k + f (k + 1)) (by omega)
    show -9999 * ((k + 1 : Nat) : Int) ≤ riW T f k + T (12 * f k + f (k + 1)) ∧ riW T f k + T (12 * f k + f (k + 1)) ≤ 9999 * ((k + 1 : Nat) : Int)
    omega
theorem riW_add {T : Nat → Int} {f : Nat → Nat} (a : Nat) : ∀ b : Nat, riW T f (a + b) = riW T f a + riW T (fun i => f (a + i)) b := by
  intro b
  induction b with
  | zero => exact (Int.add_zero _).symm
  | succ b ih =>
    show riW T f (a + b) + T (12 * f (a + b) + f (a + b + 1)) = riW T f a + (riW T (fun i => f (a + i)) b + T (12 * f (a + b) + f (a + (b + 1))))
    rw [ih]
    have h : a + b + 1 = a + (b + 1) := by omega
    rw [h]
    omega
theorem riO.add {T : Nat → Int} {U : Nat} {f : Nat → Nat} {a b : Nat} (h : riO T U f (a + b)) : riO T U (fun i => f (a + i)) b := fun i hi => by
  have h1 := h (a + i) (by omega)
  exact h1
/-- one behind the other -/
theorem ri_join {T : Nat → Int} {U : Nat} {f g : Nat → Nat} {a b : Nat} (hf : riO T U f a) (hg : riO T U g b) (he : f a = g 0) : ∃ h : Nat → Nat, riO T U h (a + b) ∧ h 0 = f 0 ∧ h (a + b) = g b ∧ riW T h (a + b) = riW T f a + riW T g b := by
  have h1 : ∀ i : Nat, i ≤ a → (if i ≤ a then f i else g (i - a)) = f i := fun i hi => if_pos hi
  have h2 : ∀ i : Nat, (if a + i ≤ a then f (a + i) else g (a + i - a)) = g i := fun i => by
    by_cases e : i = 0
    · subst e; rw [if_pos (by omega)]; exact he
    · rw [if_neg (by omega), show a + i - a = i by omega]
  refine ⟨fun i => if i ≤ a then f i else g (i - a), fun i hi => ?_, h1 0 (Nat.zero_le a), h2 b, ?_⟩
  · rcases (show i < a ∨ a ≤ i by omega) with h | h
    · have h3 := hf i h
      show (if i ≤ a then f i else g (i - a)) < 12 ∧ (if i + 1 ≤ a then f (i + 1) else g (i + 1 - a)) < 12 ∧ U.testBit (if i + 1 ≤ a then f (i + 1) else g (i + 1 - a)) = true ∧ (if i ≤ a then f i else g (i - a)) ≠ (if i + 1 ≤ a then f (i + 1) else g (i + 1 - a)) ∧ T (12 * (if i ≤ a then f i else g (i - a)) + (if i + 1 ≤ a then f (i + 1) else g (i + 1 - a))) < 1000000
      rw [h1 i (by omega), h1 (i + 1) (by omega)]
      exact h3
    · have h3 := hg (i - a) (by omega)
      have h4 := h2 (i - a)
      have h5 := h2 (i - a + 1)
      rw [show a + (i - a) = i by omega] at h4
      rw [show a + (i - a + 1) = i + 1 by omega] at h5
      show (if i ≤ a then f i else g (i - a)) < 12 ∧ (if i + 1 ≤ a then f (i + 1) else g (i + 1 - a)) < 12 ∧ U.testBit (if i + 1 ≤ a then f (i + 1) else g (i + 1 - a)) = true ∧ (if i ≤ a then f i else g (i - a)) ≠ (if i + 1 ≤ a then f (i + 1) else g (i + 1 - a)) ∧ T (12 * (if i ≤ a then f i else g (i - a)) + (if i + 1 ≤ a then f (i + 1) else g (i + 1 - a))) < 1000000
      rw [h4, h5]
      exact h3
  · rw [riW_add a b, riW_c a h1, riW_c b (fun i _ => h2 i)]
/-- the shortest one below none doesn't meet itself -/
theorem ri_inj {T : Nat → Int} {U k : Nat} {f : Nat → Nat} (hf : riO T U f k) (h0 : f 0 = f k) (hw : riW T f k < 0) (hmin : ∀ k' s' : Nat, 1 ≤ k' → k' < k → ¬ riN T U k' s') : ∀ a b : Nat, a < b → b < k → f a ≠ f b := by
  intro a b hab hb e
  have hf1 : riO T U f (a + (k - a)) := by rw [show a + (k - a) = k by omega]; exact hf
  have hf2 : riO T U f (b + (k - b)) := by rw [show b + (k - b) = k by omega]; exact hf
  have e1 := riW_add (T := T) (f := f) a (b - a)
  have e2 := riW_add (T := T) (f := f) b (k - b)
  rw [show a + (b - a) = b by omega] at e1
  rw [show b + (k - b) = k by omega] at e2
  obtain ⟨h, j1, j2, j3, j4⟩ := ri_join (hf.le (show a ≤ k by omega)) hf2.add (show f a = f (b + 0) from e)
  by_cases hq : riW T (fun i => f (a + i)) (b - a) < 0
  · refine hmin (b - a) (f a) (by omega) (by omega) ⟨fun i => f (a + i), hf1.add.le (by omega), rfl, ?_, hq⟩
    show f (a + (b - a)) = f a
    rw [show a + (b - a) = b by omega]; exact e.symm
  · refine hmin (a + (k - b)) (f 0) (by omega) (by omega) ⟨h, j1, j2, ?_, by omega⟩
    rw [j3]
    show f (b + (k - b)) = f 0
    rw [show b + (k - b) = k by omega]; exact h0.symm
theorem t4095 : ∀ j : Nat, j < 12 → (4095 : Nat).testBit j = true := by decide
/-- what Floyd's steps lay is a walk -/
theorem ri_fw {T : Nat → Int} (hT : TD T) : ∀ m : Nat, m ≤ 12 → ∀ c : Nat, c < 144 → fwN T m c < 1000000 → ∃ (k : Nat) (f : Nat → Nat), riO T 4095 f k ∧ f 0 = c / 12 ∧ f k = c % 12 ∧ riW T f k = fwN T m c := by
  intro m
  induction m with
  | zero =>
    intro _ c hc h
    have h' : T c < 1000000 := h
    by_cases e : c / 12 = c % 12
    · refine ⟨0, fun _ => c / 12, fun i hi => absurd hi (Nat.not_lt_zero i), rfl, e, ?_⟩
      have h1 := hT.2 (c / 12) (by omega)
      rw [show 13 * (c / 12) = c by omega] at h1
      exact h1.symm
    · refine ⟨1, fun i => if i = 0 then c / 12 else c % 12, fun i hi => ?_, rfl, rfl, ?_⟩
      · obtain rfl : i = 0 := by omega
        show c / 12 < 12 ∧ c % 12 < 12 ∧ (4095 : Nat).testBit (c % 12) = true ∧ c / 12 ≠ c % 12 ∧ T (12 * (c / 12) + c % 12) < 1000000
        rw [show 12 * (c / 12) + c % 12 = c by omega]
        exact ⟨by omega, by omega, t4095 _ (by omega), e, h'⟩
      · show (0 : Int) + T (12 * (c / 12) + c % 12) = T c
        rw [show 12 * (c / 12) + c % 12 = c by omega, Int.zero_add]
  | succ m ih =>
    intro hm c hc h
    have hs := fwS_e (fwN T m) m c
    have e : fwN T (m + 1) c = fwS (fwN T m) m c := rfl
    rw [e] at h ⊢
    have ihm := ih (by omega)
    rcases hs with ⟨⟨h1, h2⟩, h3⟩ | ⟨h1, h3⟩
    · rcases h3 with ⟨_, h4⟩ | ⟨_, h4⟩
      · rw [h4] at h ⊢; exact ihm c hc h
      · obtain ⟨a, f, f1, f2, f3, f4⟩ := ihm (12 * (c / 12) + m) (by omega) h1
        obtain ⟨b, g, g1, g2, g3, g4⟩ := ihm (12 * m + c % 12) (by omega) h2
        obtain ⟨w, j1, j2, j3, j4⟩ := ri_join f1 g1 (by rw [f3, g2]; omega)
        exact ⟨a + b, w, j1, by rw [j2, f2]; omega, by rw [j3, g3]; omega, by rw [j4, f4, g4, h4]⟩
    · rw [h3] at h ⊢; exact ihm c hc h
theorem ri_ex {T : Nat → Int} (hT : TD T) (h : ¬ okN T 12) : ∃ k s : Nat, 1 ≤ k ∧ riN T 4095 k s := by
  apply Classical.byContradiction
  intro hn
  apply h
  intro m hm t ht
  rcases (show 0 ≤ fwN T m (13 * t) ∨ fwN T m (13 * t) < 0 by omega) with h1 | h1
  · exact h1
  · exfalso
    obtain ⟨k, f, f1, f2, f3, f4⟩ := ri_fw hT m hm (13 * t) (by omega) (by omega)
    refine hn ⟨k, t, ?_, f, f1, by omega, by omega, by omega⟩
    rcases (show k = 0 ∨ 1 ≤ k by omega) with h2 | h2
    · subst h2
      have h5 : riW T f 0 = 0 := rfl
      omega
    · exact h2
theorem ri_least {P : Nat → Prop} : ∀ n : Nat, P n → ∃ m : Nat, m ≤ n ∧ P m ∧ ∀ k : Nat, k < m → ¬ P k := by
  intro n
  induction n using Nat.strongRecOn with
  | ind n ih =>
    intro h
    by_cases hq : ∃ k : Nat, k < n ∧ P k
    · obtain ⟨k, h1, h2⟩ := hq
      obtain ⟨m, a, b, c⟩ := ih k h1 h2
      exact ⟨m, by omega, b, c⟩
    · exact ⟨n, Nat.le_refl n, h, fun k hk hp => hq ⟨k, hk, hp⟩⟩
/-- the shortest: k steps, from s on -/
def riK (T : Nat → Int) (k : Nat) : Prop := 1 ≤ k ∧ (∃ s : Nat, riN T 4095 k s) ∧ ∀ k' s' : Nat, 1 ≤ k' → k' < k → ¬ riN T 4095 k' s'
theorem riK.u {T : Nat → Int} {a b : Nat} (ha : riK T a) (hb : riK T b) : a = b := by
  obtain ⟨a1, ⟨s, a2⟩, a3⟩ := ha
  obtain ⟨b1, ⟨t, b2⟩, b3⟩ := hb
  rcases (show a < b ∨ a = b ∨ b < a by omega) with h | h | h
  · exact absurd a2 (b3 a s a1 h)
  · exact h
  · exact absurd b2 (a3 b t b1 h)
theorem riK.ex {T : Nat → Int} (hT : TD T) (h : ¬ okN T 12) : ∃ k : Nat, riK T k := by
  obtain ⟨k, s, h1, h2⟩ := ri_ex hT h
  obtain ⟨m, a, ⟨b1, s2, b2⟩, c⟩ := ri_least (P := fun k => 1 ≤ k ∧ ∃ s : Nat, riN T 4095 k s) k ⟨h1, s, h2⟩
  exact ⟨m, b1, ⟨s2, b2⟩, fun k' s' x y z => c k' y ⟨x, s', z⟩⟩
theorem riK.le {T : Nat → Int} {k : Nat} (h : riK T k) : k ≤ 12 := by
  obtain ⟨h1, ⟨s, f, f1, f2, f3, f4⟩, h3⟩ := h
  have hi := ri_inj f1 (f2.trans f3.symm) f4 h3
  refine pgn 12 k (fun i => f i + 1) (fun j hj => ⟨by omega, by have := (f1 j hj).1; omega⟩) (fun i j hi2 hj2 e => ?_)
  rcases (show i < j ∨ i = j ∨ j < i by omega) with h | h | h
  · exact absurd (show f i = f j by have e' : f i + 1 = f j + 1 := e; omega) (hi i j h hj2)
  · exact h
  · exact absurd (show f j = f i by have e' : f i + 1 = f j + 1 := e; omega) (hi j i h hi2)
-- the class's steps: the least by so many steps
def riH (T : Nat → Int) (U s k : Nat) (h : Nat → Int) : Prop := ∀ j : Nat, j < 12 → (h j < 1000000 → ∃ f : Nat → Nat, riO T U f k ∧ f 0 = s ∧ f k = j ∧ riW T f k = h j) ∧ (∀ f : Nat → Nat, riO T U f k → f 0 = s → f k = j → h j ≤ riW T f k) ∧ h j ≤ 1000000
theorem riH.ini {T : Nat → Int} {U s : Nat} {h : Nat → Int} (h0 : ∀ j : Nat, j < 12 → (j = s → h j = 0) ∧ (j ≠ s → h j = 1000000)) : riH T U s 0 h := fun j hj => by
  have h1 := h0 j hj
  by_cases e : j = s
  · have h2 := h1.1 e
    exact ⟨fun _ => ⟨fun _ => s, fun i hi => absurd hi (Nat.not_lt_zero i), rfl, e.symm, h2.symm⟩, fun f _ _ _ => by rw [h2]; exact Int.le_refl 0, by omega⟩
  · have h2 := h1.2 e
    exact ⟨fun h3 => absurd h3 (by omega), fun f _ a b => absurd (a.symm.trans b).symm e, by omega⟩
theorem riH.r {T : Nat → Int} (hT : TB T) {U s k : Nat} {h : Nat → Int} (hh : riH T U s k h) {j : Nat} (hj : j < 12) : (-9999 * (k : Int) ≤ h j ∧ h j ≤ 9999 * (k : Int)) ∨ h j = 1000000 := by
  obtain ⟨a, _, c⟩ := hh j hj
  rcases (show h j < 1000000 ∨ h j = 1000000 by omega) with e | e
  · obtain ⟨f, f1, _, _, f4⟩ := a e
    have h1 := ri_b hT k f1
    exact Or.inl (by omega)
  · exact Or.inr e
def riQ (T : Nat → Int) (U : Nat) (a : Nat → Int) (p j : Nat) : Prop := U.testBit j = true ∧ p ≠ j ∧ a p < 1000000 ∧ T (12 * p + j) < 1000000
def riX (T : Nat → Int) (U : Nat) (a : Nat → Int) (c : Int) (n : Nat → Int) : Prop := ∀ j : Nat, j < 12 → (n j < 1000000 → ∃ p : Nat, p < 12 ∧ riQ T U a p j ∧ n j = a p + T (12 * p + j)) ∧ (∀ p : Nat, p < 12 → 12 * (p : Int) + j < c → riQ T U a p j → n j ≤ a p + T (12 * p + j)) ∧ n j ≤ 1000000
theorem riX.ini {T : Nat → Int} {U : Nat} {a n : Nat → Int} (h : ∀ j : Nat, j < 12 → n j = 1000000) : riX T U a 0 n := fun j hj => by
  have h1 := h j hj
  exact ⟨fun h2 => absurd h2 (by omega), fun p hp h2 => absurd h2 (by omega), by omega⟩
theorem riX.no {T : Nat → Int} {U : Nat} {a n : Nat → Int} {p j : Nat} {c c1 : Int} (h : riX T U a c n) (hp : p < 12) (hj : j < 12) (hc : c = 12 * (p : Int) + j) (h1 : c1 = c + 1) (hq : ¬ riQ T U a p j) : riX T U a c1 n := fun i hi => by
  obtain ⟨g1, g2, g3⟩ := h i hi
  refine ⟨g1, fun q hq1 hq2 hq3 => ?_, g3⟩
  rcases (show 12 * (q : Int) + i < c ∨ 12 * (q : Int) + i = c by omega) with e | e
  · exact g2 q hq1 e hq3
  · obtain rfl : q = p := by omega
    obtain rfl : i = j := by omega
    exact absurd hq3 hq
theorem riX.skip {T : Nat → Int} {U : Nat} {a n : Nat → Int} {p : Nat} {c c1 : Int} (h : riX T U a c n) (hp : p < 12) (hc : 12 * (p : Int) ≤ c) (h1 : c1 = 12 * (p : Int) + 12) (hq : ¬ a p < 1000000) : riX T U a c1 n := fun i hi => by
  obtain ⟨g1, g2, g3⟩ := h i hi
  refine ⟨g1, fun q hq1 hq2 hq3 => ?_, g3⟩
  rcases (show 12 * (q : Int) + i < c ∨ c ≤ 12 * (q : Int) + i by omega) with e | e
  · exact g2 q hq1 e hq3
  · obtain rfl : q = p := by omega
    exact absurd hq3.2.2.1 hq
theorem riX.yes {T : Nat → Int} {U : Nat} {a n n1 : Nat → Int} {p j : Nat} {c c1 t : Int} (h : riX T U a c n) (hp : p < 12) (hj : j < 12) (hc : c = 12 * (p : Int) + j) (h1 : c1 = c + 1) (hq : riQ T U a p j) (hs : a p + T (12 * p + j) < 1000000) (hn : n1 = updZ n j t) (ht : (t = n j ∧ n j ≤ a p + T (12 * p + j)) ∨ (t = a p + T (12 * p + j) ∧ a p + T (12 * p + j) ≤ n j)) : riX T U a c1 n1 := fun i hi => by
  obtain ⟨g1, g2, g3⟩ := h i hi
  subst hn
  by_cases e : i = j
  · subst e
    rw [updZ_s]
    refine ⟨fun h2 => ?_, fun q hq1 hq2 hq3 => ?_, by omega⟩
    · rcases ht with ⟨e1, _⟩ | ⟨e1, _⟩
      · rw [e1] at h2 ⊢; exact g1 h2
      · exact ⟨p, hp, hq, e1⟩
    · rcases (show 12 * (q : Int) + i < c ∨ 12 * (q : Int) + i = c by omega) with e1 | e1
      · have := g2 q hq1 e1 hq3; omega
      · obtain rfl : q = p := by omega
        omega
  · rw [updZ_n _ _ e]
    refine ⟨g1, fun q hq1 hq2 hq3 => ?_, g3⟩
    exact g2 q hq1 (by omega) hq3
theorem riH.step {T : Nat → Int} (hT : TB T) {U s k : Nat} {a n : Nat → Int} (hs : s < 12) (hk : k ≤ 20) (h : riH T U s k a) (hn : riX T U a 144 n) : riH T U s (k + 1) n := fun j hj => by
  obtain ⟨g1, g2, g3⟩ := hn j hj
  refine ⟨fun h1 => ?_, fun f f1 f2 f3 => ?_, g3⟩
  · obtain ⟨p, hp, ⟨q1, q2, q3, q4⟩, e⟩ := g1 h1
    obtain ⟨f, f1, f2, f3, f4⟩ := (h p hp).1 q3
    have hg : riO T U (fun i => if i = 0 then p else j) 1 := fun i hi => by
      obtain rfl : i = 0 := by omega
      exact ⟨hp, hj, q1, q2, q4⟩
    obtain ⟨w, j1, j2, j3, j4⟩ := ri_join f1 hg f3
    refine ⟨w, j1, j2.trans f2, j3, ?_⟩
    rw [j4, f4, e]
    show a p + ((0 : Int) + T (12 * p + j)) = _
    omega
  · obtain ⟨a1, a2, a3, a4, a5⟩ := f1 k (Nat.lt_succ_self k)
    have hpre := f1.le (Nat.le_succ k)
    have h4 := (h (f k) a1).2.1 f hpre f2 rfl
    have h5 := ri_b hT k hpre
    have h6 := g2 (f k) a1 (by omega) ⟨by rw [← f3]; exact a3, by rw [← f3]; exact a4, by omega, by rw [← f3]; exact a5⟩
    show n j ≤ riW T f k + T (12 * f k + f (k + 1))
    rw [f3]
    omega
theorem riH.neg {T : Nat → Int} {U s k : Nat} {h : Nat → Int} (hh : riH T U s k h) (hs : s < 12) : h s < 0 ↔ riN T U k s := by
  obtain ⟨a, b, _⟩ := hh s hs
  constructor
  · intro h1
    obtain ⟨f, f1, f2, f3, f4⟩ := a (by omega)
    exact ⟨f, f1, f2, f3, by omega⟩
  · rintro ⟨f, f1, f2, f3, f4⟩
    have := b f f1 f2 f3
    omega
/-- what stepsBack answers -/
def riT (T : Nat → Int) (U s : Nat) (most r : Int) : Prop := (1 ≤ r ∧ r ≤ most ∧ riN T U r.toNat s ∧ ∀ k : Nat, 1 ≤ k → (k : Int) < r → ¬ riN T U k s) ∨ (r = most + 1 ∧ ∀ k : Nat, 1 ≤ k → (k : Int) ≤ most → ¬ riN T U k s)
/-- what fewest answers over those below x -/
def riM (T : Nat → Int) (x r : Int) : Prop := (1 ≤ r ∧ r ≤ 13) ∧ (r ≤ 12 → ∃ s : Nat, riN T 4095 r.toNat s) ∧ ∀ s k : Nat, (s : Int) < x → 1 ≤ k → (k : Int) < r → ¬ riN T 4095 k s
theorem riN.s {T : Nat → Int} {U k s : Nat} (h : riN T U k s) (hk : 1 ≤ k) : s < 12 := by
  obtain ⟨f, f1, f2, _⟩ := h
  have := (f1 0 (by omega)).1
  omega
theorem riM.ini {T : Nat → Int} : riM T 0 13 := ⟨by omega, fun h => absurd h (by decide), fun s k h => absurd h (by omega)⟩
theorem riM.step {T : Nat → Int} {x r t q : Int} (h : riM T x r) (hx : 0 ≤ x) (ht : riT T 4095 x.toNat 12 t) (hq : (q = r ∧ r ≤ t) ∨ (q = t ∧ t ≤ r)) : riM T (x + 1) q := by
  obtain ⟨h1, h2, h3⟩ := h
  have ht1 : 1 ≤ t ∧ t ≤ 13 := by rcases ht with ⟨a, b, _⟩ | ⟨a, _⟩ <;> omega
  have ht2 : ∀ k : Nat, 1 ≤ k → (k : Int) < t → ¬ riN T 4095 k x.toNat := by
    rcases ht with ⟨_, _, _, d⟩ | ⟨a, d⟩
    · exact d
    · exact fun k a1 a2 => d k a1 (by omega)
  refine ⟨by omega, fun hq12 => ?_, fun s k a b c => ?_⟩
  · rcases hq with ⟨e, e2⟩ | ⟨e, e2⟩
    · rw [e] at hq12 ⊢; exact h2 hq12
    · rw [e] at hq12 ⊢
      rcases ht with ⟨_, _, d, _⟩ | ⟨d, _⟩
      · exact ⟨_, d⟩
      · omega
  · rcases (show (s : Int) < x ∨ s = x.toNat by omega) with e | e
    · exact h3 s k e b (by omega)
    · rw [e]; exact ht2 k b (by omega)
theorem riM.out {T : Nat → Int} {r : Int} {k : Nat} (h : riM T 12 r) (hk : riK T k) : r = (k : Int) := by
  obtain ⟨h1, h2, h3⟩ := h
  have hk12 := hk.le
  obtain ⟨a, ⟨s, b⟩, c⟩ := hk
  have hs := b.s a
  rcases (show r < (k : Int) ∨ r = (k : Int) ∨ (k : Int) < r by omega) with e | e | e
  · obtain ⟨t, ht⟩ := h2 (by omega)
    exact absurd ht (c r.toNat t (by omega) (by omega))
  · exact e
  · exact absurd b (h3 s k (by omega) a e)
-- how many of a set
def riB (S : Nat) : Nat → Nat
  | 0 => 0
  | x + 1 => riB S x + (if S.testBit x = true then 1 else 0)
theorem riB_le (S : Nat) : ∀ x y : Nat, x ≤ y → riB S x ≤ riB S y := by
  intro x y h
  have key : ∀ d : Nat, riB S x ≤ riB S (x + d) := by
    intro d
    induction d with
    | zero => exact Nat.le_refl _
    | succ d ih => exact Nat.le_trans ih (Nat.le_add_right _ _)
  have h1 := key (y - x)
  rw [show x + (y - x) = y by omega] at h1
  exact h1
theorem riB_y {S x y : Nat} (hx : S.testBit x = true) (h : x < y) : riB S x + 1 ≤ riB S y := by
  have h1 := riB_le S (x + 1) y h
  have h2 : riB S (x + 1) = riB S x + 1 := by show riB S x + (if S.testBit x = true then 1 else 0) = _; rw [if_pos hx]
  omega
/-- unlike ones of a set: no more than it has -/
theorem riB_inj {S n : Nat} {f : Nat → Nat} (hf : ∀ i : Nat, i < n → S.testBit (f i) = true ∧ f i < 12) (hi : ∀ a b : Nat, a < b → b < n → f a ≠ f b) : n ≤ riB S 12 := by
  refine pgn (riB S 12) n (fun i => riB S (f i) + 1) (fun j hj => ⟨by omega, riB_y (hf j hj).1 (hf j hj).2⟩) (fun i j hi2 hj2 e => ?_)
  have e' : riB S (f i) + 1 = riB S (f j) + 1 := e
  have hne : f i = f j := by
    rcases (show f i < f j ∨ f i = f j ∨ f j < f i by omega) with h | h | h
    · have := riB_y (hf i hi2).1 h; omega
    · exact h
    · have := riB_y (hf j hj2).1 h; omega
  rcases (show i < j ∨ i = j ∨ j < i by omega) with h | h | h
  · exact absurd hne (hi i j h hj2)
  · exact h
  · exact absurd hne.symm (hi j i h hi2)
theorem riB_up {S t : Nat} (ht : t < 12) : riB (S ||| 2 ^ t) 12 ≤ riB S 12 + 1 := by
  have key : ∀ x : Nat, riB (S ||| 2 ^ t) x ≤ riB S x + (if t < x then 1 else 0) := by
    intro x
    induction x with
    | zero => exact Nat.zero_le _
    | succ x ih =>
      show riB (S ||| 2 ^ t) x + (if (S ||| 2 ^ t).testBit x = true then 1 else 0) ≤ riB S x + (if S.testBit x = true then 1 else 0) + (if t < x + 1 then 1 else 0)
      rw [Nat.testBit_or, Nat.testBit_two_pow]
      by_cases h1 : t = x
      · subst h1
        rw [if_neg (Nat.lt_irrefl t)] at ih
        rw [if_pos (Nat.lt_succ_self t)]
        split <;> split <;> omega
      · rw [decide_eq_false h1, Bool.or_false]
        by_cases h2 : t < x
        · rw [if_pos h2] at ih; rw [if_pos (show t < x + 1 by omega)]; omega
        · rw [if_neg h2] at ih; rw [if_neg (show ¬ t < x + 1 by omega)]; omega
  have h := key 12
  rw [if_pos ht] at h
  exact h
/-- the set of so many -/
def riI (f : Nat → Nat) : Nat → Nat
  | 0 => 0
  | n + 1 => riI f n ||| 2 ^ f n
theorem riI_bit (f : Nat → Nat) (x : Nat) : ∀ n : Nat, (riI f n).testBit x = true ↔ ∃ i : Nat, i < n ∧ f i = x := by
  intro n
  induction n with
  | zero => exact ⟨fun h => absurd h (by show ¬ (0 : Nat).testBit x = true; rw [Nat.zero_testBit]; decide), fun ⟨i, h, _⟩ => absurd h (Nat.not_lt_zero i)⟩
  | succ n ih =>
    show (riI f n ||| 2 ^ f n).testBit x = true ↔ _
    rw [Nat.testBit_or, Bool.or_eq_true, ih, Nat.testBit_two_pow, decide_eq_true_iff]
    constructor
    · rintro (⟨i, h1, h2⟩ | h)
      · exact ⟨i, by omega, h2⟩
      · exact ⟨n, Nat.lt_succ_self n, h⟩
    · rintro ⟨i, h1, h2⟩
      rcases (show i < n ∨ i = n by omega) with h | h
      · exact Or.inl ⟨i, h, h2⟩
      · exact Or.inr (h ▸ h2)
theorem riI_lt (f : Nat → Nat) : ∀ n : Nat, (∀ i : Nat, i < n → f i < 12) → riI f n < 4096 ∧ riB (riI f n) 12 ≤ n := by
  intro n
  induction n with
  | zero => intro _; exact ⟨by show 0 < 4096; decide, by show riB 0 12 ≤ 0; decide⟩
  | succ n ih =>
    intro h
    have h1 := ih (fun i hi => h i (by omega))
    have h2 := h n (Nat.lt_succ_self n)
    refine ⟨?_, ?_⟩
    · show riI f n ||| 2 ^ f n < 2 ^ 12
      exact Nat.or_lt_two_pow h1.1 (Nat.pow_lt_pow_right (by decide) h2)
    · have h3 := riB_up (S := riI f n) h2
      show riB (riI f n ||| 2 ^ f n) 12 ≤ n + 1
      omega
-- rings of a set, as the reference reckons them: from the lowest one by all of them once
def riLow (S x : Nat) : Prop := S.testBit x = true ∧ ∀ y : Nat, y < x → S.testBit y = false
theorem riLow.u {S x y : Nat} (hx : riLow S x) (hy : riLow S y) : x = y := by
  rcases (show x < y ∨ x = y ∨ y < x by omega) with h | h | h
  · have := hy.2 x h; rw [hx.1] at this; exact absurd this (by decide)
  · exact h
  · have := hx.2 y h; rw [hy.1] at this; exact absurd this (by decide)
def riP (T : Nat → Int) (S m j : Nat) (f : Nat → Nat) : Prop := riLow S (f 0) ∧ f m = j ∧ (∀ a b : Nat, a < b → b ≤ m → f a ≠ f b) ∧ (∀ x : Nat, S.testBit x = true ↔ ∃ i : Nat, i ≤ m ∧ f i = x) ∧ ∀ i : Nat, i < m → T (12 * f i + f (i + 1)) < 1000000
theorem riP.in {T : Nat → Int} {S m j : Nat} {f : Nat → Nat} (h : riP T S m j f) {i : Nat} (hi : i ≤ m) : S.testBit (f i) = true := (h.2.2.2.1 (f i)).mpr ⟨i, hi, rfl⟩
theorem riP.o {T : Nat → Int} {S m j : Nat} {f : Nat → Nat} (hS : S < 4096) (h : riP T S m j f) : riO T S f m := fun i hi => ⟨bitl hS (h.in (by omega)), bitl hS (h.in (by omega)), h.in (by omega), h.2.2.1 i (i + 1) (by omega) (by omega), h.2.2.2.2 i hi⟩
theorem riP.m {T : Nat → Int} {S m j : Nat} {f : Nat → Nat} (hS : S < 4096) (h : riP T S m j f) : m + 1 ≤ riB S 12 ∧ m ≤ 11 := by
  have h1 := riB_inj (S := S) (n := m + 1) (f := f) (fun i hi => ⟨h.in (by omega), bitl hS (h.in (by omega))⟩) (fun a b x y => h.2.2.1 a b x (by omega))
  have h2 := pgn 12 (m + 1) (fun i => f i + 1) (fun j hj => ⟨by omega, by have := bitl hS (h.in (show j ≤ m by omega)); omega⟩) (fun i j hi hj e => by
    have e' : f i + 1 = f j + 1 := e
    rcases (show i < j ∨ i = j ∨ j < i by omega) with g | g | g
    · exact absurd (show f i = f j by omega) (h.2.2.1 i j g (by omega))
    · exact g
    · exact absurd (show f j = f i by omega) (h.2.2.1 j i g (by omega)))
  exact ⟨h1, by omega⟩
def riS (T : Nat → Int) (S j : Nat) (w : Int) : Prop := (w < 1000000 → ∃ (m : Nat) (f : Nat → Nat), riP T S m j f ∧ riW T f m = w) ∧ (∀ (m : Nat) (f : Nat → Nat), riP T S m j f → w ≤ riW T f m) ∧ w ≤ 1000000
theorem riS.r {T : Nat → Int} (hT : TB T) {S j : Nat} {w : Int} (hS : S < 4096) (h : riS T S j w) : -109989 ≤ w ∧ w ≤ 1000000 := by
  rcases (show w < 1000000 ∨ w = 1000000 by have := h.2.2; omega) with e | e
  · obtain ⟨m, f, f1, f2⟩ := h.1 e
    have h1 := ri_b hT m (f1.o hS)
    have h2 := (f1.m hS).2
    omega
  · omega
theorem riS.off {T : Nat → Int} {S j : Nat} (h : ¬ S.testBit j = true) : riS T S j 1000000 := ⟨fun a => absurd a (by decide), fun m f hf => absurd (hf.2.1 ▸ hf.in (Nat.le_refl m)) h, Int.le_refl _⟩
theorem riS.one {T : Nat → Int} {S j : Nat} (hS : S < 4096) (hj : S.testBit j = true) (h : ∀ x : Nat, S.testBit x = true → x = j) : riS T S j 0 := by
  refine ⟨fun _ => ⟨0, fun _ => j, ⟨⟨hj, fun y hy => ?_⟩, rfl, fun a b x y => absurd x (by omega), fun x => ⟨fun hx => ⟨0, Nat.le_refl 0, (h x hx).symm⟩, fun ⟨i, _, e⟩ => e ▸ hj⟩, fun i hi => absurd hi (Nat.not_lt_zero i)⟩, rfl⟩, fun m f hf => ?_, by decide⟩
  · rcases Bool.eq_false_or_eq_true (S.testBit y) with e | e
    · exact absurd (h y e) (Nat.ne_of_lt hy)
    · exact e
  · rcases (show m = 0 ∨ 0 < m by omega) with e | e
    · subst e; exact Int.le_refl 0
    · exact absurd ((h _ (hf.in (Nat.zero_le m))).trans (h _ (hf.in (show 1 ≤ m from e))).symm) (hf.2.2.1 0 1 (by omega) e)
theorem riS.low {T : Nat → Int} {S j : Nat} (hl : riLow S j) (h : ∃ x : Nat, S.testBit x = true ∧ x ≠ j) : riS T S j 1000000 := by
  refine ⟨fun a => absurd a (by decide), fun m f hf => ?_, Int.le_refl _⟩
  exfalso
  have e := hl.u hf.1
  rcases (show m = 0 ∨ 0 < m by omega) with e2 | e2
  · subst e2
    obtain ⟨x, h1, h2⟩ := h
    obtain ⟨i, h3, h4⟩ := (hf.2.2.2.1 x).mp h1
    obtain rfl : i = 0 := by omega
    exact h2 (h4.symm.trans hf.2.1)
  · exact hf.2.2.1 0 m e2 (Nat.le_refl m) (e.symm.trans hf.2.1.symm)
/-- over those below x: the least with the last step -/
def riY (T : Nat → Int) (R j : Nat) (F : Nat → Int) (x w : Int) : Prop := (w < 1000000 → ∃ p : Nat, p < 12 ∧ R.testBit p = true ∧ F p < 1000000 ∧ T (12 * p + j) < 1000000 ∧ w = F p + T (12 * p + j)) ∧ (∀ p : Nat, (p : Int) < x → R.testBit p = true → F p < 1000000 → T (12 * p + j) < 1000000 → w ≤ F p + T (12 * p + j)) ∧ w ≤ 1000000
theorem riY.ini {T : Nat → Int} {R j : Nat} {F : Nat → Int} : riY T R j F 0 1000000 := ⟨fun a => absurd a (by decide), fun p h => absurd h (by omega), Int.le_refl _⟩
theorem riY.no {T : Nat → Int} {R j : Nat} {F : Nat → Int} {x w : Int} (h : riY T R j F x w) (hx : 0 ≤ x) (hq : ¬ (R.testBit x.toNat = true ∧ F x.toNat < 1000000 ∧ T (12 * x.toNat + j) < 1000000)) : riY T R j F (x + 1) w := by
  refine ⟨h.1, fun p a b c d => ?_, h.2.2⟩
  rcases (show (p : Int) < x ∨ p = x.toNat by omega) with e | e
  · exact h.2.1 p e b c d
  · subst e; exact absurd ⟨b, c, d⟩ hq
theorem riY.yes {T : Nat → Int} {R j : Nat} {F : Nat → Int} {x w v : Int} (h : riY T R j F x w) (hx : 0 ≤ x ∧ x ≤ 11) (h1 : R.testBit x.toNat = true) (h2 : F x.toNat < 1000000) (h3 : T (12 * x.toNat + j) < 1000000) (hv : (v = w ∧ w ≤ F x.toNat + T (12 * x.toNat + j)) ∨ (v = F x.toNat + T (12 * x.toNat + j) ∧ F x.toNat + T (12 * x.toNat + j) ≤ w)) : riY T R j F (x + 1) v := by
  refine ⟨fun a => ?_, fun p a b c d => ?_, by have := h.2.2; omega⟩
  · rcases hv with ⟨e, _⟩ | ⟨e, _⟩
    · rw [e] at a ⊢; exact h.1 a
    · exact ⟨x.toNat, by omega, h1, h2, h3, e⟩
  · rcases (show (p : Int) < x ∨ p = x.toNat by omega) with e | e
    · have := h.2.1 p e b c d; omega
    · subst e; omega
theorem riS.step {T : Nat → Int} (hT : TB T) {S R j : Nat} {F : Nat → Int} {w : Int} (hS : S < 4096) (hj : S.testBit j = true) (hR : ∀ x : Nat, R.testBit x = true ↔ S.testBit x = true ∧ x ≠ j) (hR4 : R < 4096) (hl : ¬ riLow S j) (hF : ∀ p : Nat, p < 12 → R.testBit p = true → riS T R p (F p)) (h : riY T R j F 12 w) : riS T S j w := by
  refine ⟨fun a => ?_, fun m f hf => ?_, h.2.2⟩
  · obtain ⟨p, p1, p2, p3, p4, p5⟩ := h.1 a
    obtain ⟨m, f, hf, hw⟩ := (hF p p1 p2).1 p3
    have hlt : ∀ i : Nat, i ≤ m → (if i ≤ m then f i else j) = f i := fun i hi => if_pos hi
    have hgt : (if m + 1 ≤ m then f (m + 1) else j) = j := if_neg (by omega)
    refine ⟨m + 1, fun i => if i ≤ m then f i else j, ⟨?_, hgt, fun x y hxy hy => ?_, fun x => ?_, fun i hi => ?_⟩, ?_⟩
    · show riLow S (if 0 ≤ m then f 0 else j)
      rw [hlt 0 (Nat.zero_le m)]
      have h0 := hf.1
      refine ⟨((hR _).mp h0.1).1, fun y hy => ?_⟩
      rcases Bool.eq_false_or_eq_true (S.testBit y) with e | e
      · exfalso
        by_cases e2 : y = j
        · subst e2
          refine hl ⟨e, fun z hz => ?_⟩
          rcases Bool.eq_false_or_eq_true (S.testBit z) with e3 | e3
          · have h5 := h0.2 z (by omega)
            rw [(hR z).mpr ⟨e3, by omega⟩] at h5
            exact absurd h5 (by decide)
          · exact e3
        · have h5 := h0.2 y hy
          rw [(hR y).mpr ⟨e, e2⟩] at h5
          exact absurd h5 (by decide)
      · exact e
    · show (if x ≤ m then f x else j) ≠ (if y ≤ m then f y else j)
      rw [hlt x (by omega)]
      by_cases e : y ≤ m
      · rw [hlt y e]; exact hf.2.2.1 x y hxy e
      · rw [if_neg e]; exact ((hR _).mp (hf.in (show x ≤ m by omega))).2
    · constructor
      · intro hx
        by_cases e : x = j
        · exact ⟨m + 1, Nat.le_refl _, by rw [e]; exact hgt⟩
        · obtain ⟨i, h1, h2⟩ := (hf.2.2.2.1 x).mp ((hR x).mpr ⟨hx, e⟩)
          exact ⟨i, by omega, by rw [← h2]; exact hlt i h1⟩
      · rintro ⟨i, h1, h2⟩
        rcases (show i ≤ m ∨ i = m + 1 by omega) with e | e
        · have h3 : f i = x := (hlt i e).symm.trans h2
          exact ((hR x).mp ((hf.2.2.2.1 x).mpr ⟨i, e, h3⟩)).1
        · subst e
          have h3 : j = x := hgt.symm.trans h2
          rw [← h3]; exact hj
    · show T (12 * (if i ≤ m then f i else j) + (if i + 1 ≤ m then f (i + 1) else j)) < 1000000
      rw [hlt i (by omega)]
      rcases (show i + 1 ≤ m ∨ i = m by omega) with e | e
      · rw [hlt (i + 1) e]; exact hf.2.2.2.2 i (by omega)
      · subst e; rw [hgt, hf.2.1]; exact p4
    · show riW T (fun i => if i ≤ m then f i else j) m + T (12 * (if m ≤ m then f m else j) + (if m + 1 ≤ m then f (m + 1) else j)) = w
      rw [hgt, hlt m (Nat.le_refl m), riW_c m hlt, hw, hf.2.1, p5]
  · rcases (show m = 0 ∨ ∃ n : Nat, m = n + 1 by rcases m with _ | n; exact Or.inl rfl; exact Or.inr ⟨n, rfl⟩) with e | ⟨n, rfl⟩
    · subst e
      exact absurd (hf.2.1 ▸ hf.1) hl
    · have hmem : ∀ i : Nat, i ≤ n → R.testBit (f i) = true := fun i hi => (hR _).mpr ⟨hf.in (by omega), fun e => hf.2.2.1 i (n + 1) (by omega) (Nat.le_refl _) (e.trans hf.2.1.symm)⟩
      have hp : riP T R n (f n) f := by
        refine ⟨⟨hmem 0 (Nat.zero_le n), fun y hy => ?_⟩, rfl, fun a b x y => hf.2.2.1 a b x (by omega), fun x => ⟨fun hx => ?_, fun ⟨i, h1, h2⟩ => h2 ▸ hmem i h1⟩, fun i hi => hf.2.2.2.2 i (by omega)⟩
        · rcases Bool.eq_false_or_eq_true (R.testBit y) with e | e
          · have h5 := hf.1.2 y hy
            rw [((hR y).mp e).1] at h5
            exact absurd h5 (by decide)
          · exact e
        · obtain ⟨i, h1, h2⟩ := (hf.2.2.2.1 x).mp ((hR x).mp hx).1
          rcases (show i ≤ n ∨ i = n + 1 by omega) with e | e
          · exact ⟨i, e, h2⟩
          · subst e; exact absurd (h2.symm.trans hf.2.1) ((hR x).mp hx).2
      have hn := hmem n (Nat.le_refl n)
      have hb := bitl hR4 hn
      have h1 := (hF (f n) hb hn).2.1 n f hp
      have h2 := ri_b hT n (hp.o hR4)
      have h3 := (hp.m hR4).2
      have h4 := hf.2.2.2.2 n (Nat.lt_succ_self n)
      have h5 := h.2.1 (f n) (by omega) hn (by omega) (by rw [← hf.2.1]; exact h4)
      show w ≤ riW T f n + T (12 * f n + f (n + 1))
      rw [hf.2.1]
      omega
/-- a ring of just these -/
def riG (T : Nat → Int) (S : Nat) : Prop := ∃ (m : Nat) (f : Nat → Nat), 1 ≤ m ∧ riP T S m (f m) f ∧ T (12 * f m + f 0) < 1000000 ∧ riW T f m + T (12 * f m + f 0) < 0
theorem riG.n {T : Nat → Int} {S : Nat} (hS : S < 4096) (h : riG T S) : ∃ m x : Nat, 1 ≤ m ∧ m + 1 ≤ riB S 12 ∧ riLow S x ∧ riN T S (m + 1) x := by
  obtain ⟨m, f, h1, hp, h3, h4⟩ := h
  have hg : riO T S (fun i => if i = 0 then f m else f 0) 1 := fun i hi => by
    obtain rfl : i = 0 := by omega
    exact ⟨bitl hS (hp.in (Nat.le_refl m)), bitl hS (hp.in (Nat.zero_le m)), hp.in (Nat.zero_le m), fun e => hp.2.2.1 0 m (by omega) (Nat.le_refl m) e.symm, h3⟩
  obtain ⟨w, j1, j2, j3, j4⟩ := ri_join (hp.o hS) hg rfl
  refine ⟨m, f 0, h1, (hp.m hS).1, hp.1, w, j1, j2, j3, ?_⟩
  rw [j4]
  show riW T f m + ((0 : Int) + T (12 * f m + f 0)) < 0
  omega
/-- a shortest one from the lowest on, in a set of as many: a ring of just these -/
theorem riG.of {T : Nat → Int} {S k x : Nat} (hS : S < 4096) (hk : riK T k) (hx : riLow S x) (hb : riB S 12 = k) (h : riN T S k x) : riG T S := by
  obtain ⟨f, f1, f2, f3, f4⟩ := h
  obtain ⟨k1, _, k3⟩ := hk
  have f1' : riO T 4095 f k := f1.sub (fun y hy => t4095 y (bitl hS hy))
  have hi := ri_inj f1' (f2.trans f3.symm) f4 k3
  obtain ⟨m, rfl⟩ : ∃ m : Nat, k = m + 1 := ⟨k - 1, by omega⟩
  have hin : ∀ i : Nat, i ≤ m → S.testBit (f i) = true := fun i hi2 => by
    rcases (show i = 0 ∨ ∃ n : Nat, i = n + 1 by rcases i with _ | n; exact Or.inl rfl; exact Or.inr ⟨n, rfl⟩) with e | ⟨n, e⟩
    · rw [e, f2]; exact hx.1
    · subst e; exact (f1 n (by omega)).2.2.1
  have h12 : ∀ i : Nat, i ≤ m → f i < 12 := fun i hi2 => bitl hS (hin i hi2)
  have hm1 : 1 ≤ m := by
    rcases (show m = 0 ∨ 1 ≤ m by omega) with e | e
    · subst e
      have h5 := (f1 0 (by omega)).2.2.2.1
      exact absurd (f2.trans f3.symm) h5
    · exact e
  have hall : ∀ y : Nat, S.testBit y = true → ∃ i : Nat, i ≤ m ∧ f i = y := fun y hy => by
    apply Classical.byContradiction
    intro hn
    have h6 := riB_inj (S := S) (n := m + 2) (f := fun i => if i ≤ m then f i else y) (fun i hi2 => by
      show S.testBit (if i ≤ m then f i else y) = true ∧ (if i ≤ m then f i else y) < 12
      by_cases e : i ≤ m
      · rw [if_pos e]; exact ⟨hin i e, h12 i e⟩
      · rw [if_neg e]; exact ⟨hy, bitl hS hy⟩) (fun a b hab hb2 => by
      show (if a ≤ m then f a else y) ≠ (if b ≤ m then f b else y)
      rw [if_pos (show a ≤ m by omega)]
      by_cases e : b ≤ m
      · rw [if_pos e]; exact hi a b hab (by omega)
      · rw [if_neg e]; exact fun e2 => hn ⟨a, by omega, e2⟩)
    omega
  refine ⟨m, f, hm1, ⟨f2 ▸ hx, rfl, fun a b hab hb2 => hi a b hab (by omega), fun y => ⟨hall y, fun ⟨i, h1, h2⟩ => h2 ▸ hin i h1⟩, fun i hi2 => (f1 i (by omega)).2.2.2.2⟩, ?_, ?_⟩
  · have h5 := (f1 m (by omega)).2.2.2.2
    rw [f3, ← f2] at h5
    exact h5
  · have h5 : riW T f (m + 1) = riW T f m + T (12 * f m + f (m + 1)) := rfl
    rw [h5, f3, ← f2] at f4
    exact f4
theorem riK.set {T : Nat → Int} {k : Nat} (hk : riK T k) : ∃ S : Nat, 1 ≤ S ∧ S < 4096 ∧ riG T S ∧ riB S 12 = k := by
  have hk0 := hk
  obtain ⟨k1, ⟨s, f, f1, f2, f3, f4⟩, k3⟩ := hk
  have hi := ri_inj f1 (f2.trans f3.symm) f4 k3
  have h12 : ∀ i : Nat, i < k → f i < 12 := fun i hi2 => (f1 i hi2).1
  have hS := riI_lt f k h12
  have hin : ∀ i : Nat, i < k → (riI f k).testBit (f i) = true := fun i hi2 => (riI_bit f (f i) k).mpr ⟨i, hi2, rfl⟩
  have hB : riB (riI f k) 12 = k := by
    have h1 := riB_inj (S := riI f k) (n := k) (f := f) (fun i hi2 => ⟨hin i hi2, h12 i hi2⟩) hi
    omega
  -- the lowest one, and the walk from it on
  obtain ⟨x, _, hx1, hx2⟩ := ri_least (P := fun x => (riI f k).testBit x = true) (f 0) (hin 0 (by omega))
  have hlow : riLow (riI f k) x := ⟨hx1, fun y hy => by
    rcases Bool.eq_false_or_eq_true ((riI f k).testBit y) with e | e
    · exact absurd e (hx2 y hy)
    · exact e⟩
  obtain ⟨a, ha, hax⟩ := (riI_bit f x k).mp hx1
  have f1a : riO T (riI f k) f k := fun i hi2 => by
    obtain ⟨q1, q2, _, q4⟩ := f1 i hi2
    refine ⟨q1, q2, ?_, q4⟩
    rcases (show i + 1 < k ∨ i + 1 = k by omega) with e | e
    · exact hin _ e
    · rw [e, f3, ← f2]; exact hin 0 (by omega)
  have f1b : riO T (riI f k) f (a + (k - a)) := by rw [show a + (k - a) = k by omega]; exact f1a
  obtain ⟨w, j1, j2, j3, j4⟩ := ri_join f1b.add (f1a.le (show a ≤ k by omega)) (show f (a + (k - a)) = f 0 by rw [show a + (k - a) = k by omega, f2, f3])
  have hk9 : k - a + a = k := by omega
  rw [hk9] at j1 j3 j4
  have hw : riN T (riI f k) k x := by
    refine ⟨w, j1, ?_, ?_, ?_⟩
    · rw [j2]; exact hax
    · rw [j3]; exact hax
    · have e := riW_add (T := T) (f := f) a (k - a)
      rw [show a + (k - a) = k by omega] at e
      rw [j4]
      omega
  refine ⟨riI f k, ?_, hS.1, riG.of hS.1 hk0 hlow hB hw, hB⟩
  rcases (show riI f k = 0 ∨ 1 ≤ riI f k by omega) with e | e
  · rw [e, Nat.zero_testBit] at hx1; exact absurd hx1 (by decide)
  · exact e
/-- the fewest, of like ones the least bits -/
def riZ (T : Nat → Int) (b : Int) : Prop := (1 ≤ b ∧ b ≤ 4095) ∧ riG T b.toNat ∧ ∀ S : Nat, 1 ≤ S → S < 4096 → riG T S → riB b.toNat 12 < riB S 12 ∨ (riB b.toNat 12 = riB S 12 ∧ b ≤ (S : Int))
theorem riZ.u {T : Nat → Int} {a b : Int} (ha : riZ T a) (hb : riZ T b) : a = b := by
  have h1 := ha.2.2 b.toNat (by have := hb.1; omega) (by have := hb.1; omega) hb.2.1
  have h2 := hb.2.2 a.toNat (by have := ha.1; omega) (by have := ha.1; omega) ha.2.1
  have := ha.1
  have := hb.1
  omega
theorem riG.ge {T : Nat → Int} {S k : Nat} (hS : S < 4096) (hk : riK T k) (h : riG T S) : k ≤ riB S 12 := by
  obtain ⟨m, x, h1, h2, _, h4⟩ := h.n hS
  obtain ⟨f, f1, f2, f3, f4⟩ := h4
  rcases (show k ≤ m + 1 ∨ m + 1 < k by omega) with e | e
  · omega
  · exact absurd ⟨f, f1.sub (fun y hy => t4095 y (bitl hS hy)), f2, f3, f4⟩ (hk.2.2 (m + 1) x (by omega) e)
theorem riZ.k {T : Nat → Int} {b : Int} {k : Nat} (h : riZ T b) (hk : riK T k) : riB b.toNat 12 = k := by
  obtain ⟨S, s1, s2, s3, s4⟩ := hk.set
  have h1 := h.2.2 S s1 s2 s3
  have h2 := riG.ge (by have := h.1; omega) hk h.2.1
  omega
noncomputable def riA (T : Nat → Int) : Int := Classical.epsilon (riZ T)
theorem riZ.a {T : Nat → Int} {b : Int} (h : riZ T b) : b = riA T := h.u (Classical.epsilon_spec (p := riZ T) ⟨b, h⟩)
/-- the class's: the least of as many with a shortest one from its lowest on -/
theorem riZ.cls {T : Nat → Int} {b : Int} {k x : Nat} (hk : riK T k) (hb : 1 ≤ b ∧ b ≤ 4095) (h1 : riB b.toNat 12 = k) (hx : riLow b.toNat x) (h2 : riN T b.toNat k x) (h3 : ∀ S y : Nat, 1 ≤ S → (S : Int) < b → riB S 12 = k → riLow S y → ¬ riN T S k y) : riZ T b := by
  refine ⟨hb, riG.of (by omega) hk hx h1 h2, fun S s1 s2 s3 => ?_⟩
  have h4 := riG.ge s2 hk s3
  rcases (show k < riB S 12 ∨ riB S 12 = k by omega) with e | e
  · exact Or.inl (by omega)
  · refine Or.inr ⟨by omega, ?_⟩
    obtain ⟨m, y, g1, g2, g3, g4⟩ := s3.n s2
    rcases (show b ≤ (S : Int) ∨ (S : Int) < b by omega) with e2 | e2
    · exact e2
    · exfalso
      have hm : m + 1 = k := by
        rcases (show m + 1 = k ∨ m + 1 < k by omega) with e3 | e3
        · exact e3
        · obtain ⟨f, f1, f2, f3, f4⟩ := g4
          exact absurd ⟨f, f1.sub (fun z hz => t4095 z (bitl s2 hz)), f2, f3, f4⟩ (hk.2.2 (m + 1) y (by omega) e3)
      rw [hm] at g4
      exact h3 S y s1 e2 e g3 g4
/-- the reference's: from above down -/
def riD (T : Nat → Int) (x b : Int) : Prop := (1 ≤ b ∧ b ≤ 4095) ∧ (riG T b.toNat ∨ b = 4095) ∧ ∀ S : Nat, x < (S : Int) → S < 4096 → riG T S → riB b.toNat 12 < riB S 12 ∨ (riB b.toNat 12 = riB S 12 ∧ b ≤ (S : Int))
theorem riD.ini {T : Nat → Int} : riD T 4095 4095 := ⟨by decide, Or.inr rfl, fun S h1 h2 => absurd h1 (by omega)⟩
theorem riD.no {T : Nat → Int} {x x1 b : Int} (h : riD T x b) (hx : 1 ≤ x ∧ x ≤ 4095) (h1 : x1 = x - 1) (hq : riG T x.toNat → riB b.toNat 12 < riB x.toNat 12) : riD T x1 b := by
  refine ⟨h.1, h.2.1, fun S a c d => ?_⟩
  rcases (show x < (S : Int) ∨ S = x.toNat by omega) with e | e
  · exact h.2.2 S e c d
  · subst e; exact Or.inl (hq d)
theorem riD.yes {T : Nat → Int} {x x1 b : Int} (h : riD T x b) (hx : 1 ≤ x ∧ x ≤ 4095) (h1 : x1 = x - 1) (hg : riG T x.toNat) (hq : riB x.toNat 12 ≤ riB b.toNat 12) : riD T x1 x := by
  refine ⟨hx, Or.inl hg, fun S a c d => ?_⟩
  rcases (show x < (S : Int) ∨ S = x.toNat by omega) with e | e
  · have h2 := h.2.2 S e c d
    omega
  · subst e; exact Or.inr ⟨rfl, by omega⟩
theorem riB_all : ∀ S : Nat, riB S 12 ≤ 12 := fun S => by
  have key : ∀ x : Nat, riB S x ≤ x := by
    intro x
    induction x with
    | zero => exact Nat.le_refl 0
    | succ x ih => show riB S x + (if S.testBit x = true then 1 else 0) ≤ x + 1; split <;> omega
  exact key 12
theorem riD.out {T : Nat → Int} {b : Int} {k : Nat} (h : riD T 0 b) (hk : riK T k) : riZ T b := by
  obtain ⟨h1, h2, h3⟩ := h
  refine ⟨h1, ?_, fun S s1 s2 s3 => h3 S (by omega) s2 s3⟩
  rcases h2 with h2 | h2
  · exact h2
  · obtain ⟨S, s1, s2, s3, s4⟩ := hk.set
    have h4 := h3 S (by omega) s2 s3
    have h5 : riB (4095 : Int).toNat 12 = 12 := by decide
    have h6 := riB_all S
    rw [h2] at h4 ⊢
    rw [h5] at h4
    have h7 : S = (4095 : Int).toNat := by omega
    rw [← h7]; exact s3
-- the same of what is told alike
theorem riW_t {T V : Nat → Int} {U : Nat} {f : Nat → Nat} (h : ∀ c : Nat, c < 144 → T c = V c) : ∀ k : Nat, riO T U f k → riW T f k = riW V f k := by
  intro k
  induction k with
  | zero => intro _; rfl
  | succ k ih =>
    intro hf
    obtain ⟨a, b, _⟩ := hf k (Nat.lt_succ_self k)
    show riW T f k + T (12 * f k + f (k + 1)) = riW V f k + V (12 * f k + f (k + 1))
    rw [ih (hf.le (Nat.le_succ k)), h _ (by omega)]
theorem riG_t {T V : Nat → Int} {S : Nat} (hS : S < 4096) (h : ∀ c : Nat, c < 144 → T c = V c) (hg : riG T S) : riG V S := by
  obtain ⟨m, f, h1, hp, h3, h4⟩ := hg
  have ho := hp.o hS
  have ha := bitl hS (hp.in (Nat.le_refl m))
  have hb := bitl hS (hp.in (Nat.zero_le m))
  refine ⟨m, f, h1, ⟨hp.1, hp.2.1, hp.2.2.1, hp.2.2.2.1, fun i hi => ?_⟩, ?_, ?_⟩
  · obtain ⟨q1, q2, _, _, q5⟩ := ho i hi
    rw [← h _ (by omega)]; exact q5
  · rw [← h _ (by omega)]; exact h3
  · rw [← riW_t h m ho, ← h _ (by omega)]; exact h4
theorem riZ_t {T V : Nat → Int} {b : Int} (h : ∀ c : Nat, c < 144 → T c = V c) (hz : riZ T b) : riZ V b :=
  ⟨hz.1, riG_t (by have := hz.1; omega) h hz.2.1, fun S s1 s2 s3 => hz.2.2 S s1 s2 (riG_t s2 (fun c hc => (h c hc).symm) s3)⟩
theorem riX.c {T : Nat → Int} {U : Nat} {a n n1 : Nat → Int} {c : Int} (he : ∀ j : Nat, j < 12 → n1 j = n j) (h : riX T U a c n) : riX T U a c n1 := fun j hj => by
  rw [he j hj]; exact h j hj
theorem riT.no {T : Nat → Int} {U s : Nat} {m r : Int} (hm : 0 ≤ m) (hK : riK T m.toNat) (h : riT T U s m r) (hr : r ≠ m) (hU : U < 4096) : ¬ riN T U m.toNat s := by
  rcases h with ⟨h1, h2, h3, _⟩ | ⟨_, h2⟩
  · exfalso
    obtain ⟨f, f1, f2, f3, f4⟩ := h3
    exact hK.2.2 r.toNat s (by omega) (by omega) ⟨f, f1.sub (fun y hy => t4095 y (bitl hU hy)), f2, f3, f4⟩
  · exact h2 m.toNat hK.1 (by omega)
theorem riT.yes {T : Nat → Int} {U s : Nat} {m r : Int} (h : riT T U s m r) (hr : r = m) : riN T U m.toNat s := by
  rcases h with ⟨_, _, h3, _⟩ | ⟨h1, _⟩
  · rw [← hr]; exact h3
  · omega
theorem riG.at {T : Nat → Int} {S k : Nat} (hS : S < 4096) (hk : riK T k) (h : riG T S) (hb : riB S 12 = k) : ∃ x : Nat, riLow S x ∧ riN T S k x := by
  obtain ⟨m, y, g1, g2, g3, g4⟩ := h.n hS
  have hm : m + 1 = k := by
    rcases (show m + 1 = k ∨ m + 1 < k by omega) with e3 | e3
    · exact e3
    · obtain ⟨f, f1, f2, f3, f4⟩ := g4
      exact absurd ⟨f, f1.sub (fun z hz => t4095 z (bitl hS hz)), f2, f3, f4⟩ (hk.2.2 (m + 1) y (by omega) e3)
  rw [hm] at g4
  exact ⟨y, g3, g4⟩
theorem riK.none {T : Nat → Int} {k : Nat} (hk : riK T k) (h : ∀ S y : Nat, 1 ≤ S → S < 4096 → riB S 12 = k → riLow S y → ¬ riN T S k y) : False := by
  obtain ⟨S, s1, s2, s3, s4⟩ := hk.set
  obtain ⟨x, x1, x2⟩ := s3.at s2 hk s4
  exact h S x s1 s2 s4 x1 x2
theorem riK.zex {T : Nat → Int} {k : Nat} (hk : riK T k) : ∃ b : Int, riZ T b := by
  obtain ⟨S, s1, s2, s3, s4⟩ := hk.set
  obtain ⟨b, h1, ⟨h2, h3, h4, h5⟩, h6⟩ := ri_least (P := fun S => 1 ≤ S ∧ S < 4096 ∧ riG T S ∧ riB S 12 = k) S ⟨s1, s2, s3, s4⟩
  refine ⟨(b : Int), by omega, ?_, fun V v1 v2 v3 => ?_⟩
  · rw [Int.toNat_natCast]; exact h4
  · rw [Int.toNat_natCast, h5]
    have h7 := riG.ge v2 hk v3
    rcases (show k < riB V 12 ∨ riB V 12 = k by omega) with e | e
    · exact Or.inl e
    · refine Or.inr ⟨e.symm, ?_⟩
      rcases (show b ≤ V ∨ V < b by omega) with e2 | e2
      · omega
      · exact absurd ⟨v1, v2, v3, e⟩ (h6 V e2)
theorem riK.a {T : Nat → Int} {k : Nat} (hk : riK T k) : riB (riA T).toNat 12 = k := by
  obtain ⟨b, hb⟩ := hk.zex
  rw [← hb.a]; exact hb.k hk
theorem riN_t {T V : Nat → Int} {U k s : Nat} (h : ∀ c : Nat, c < 144 → T c = V c) (hn : riN T U k s) : riN V U k s := by
  obtain ⟨f, f1, f2, f3, f4⟩ := hn
  refine ⟨f, fun i hi => ?_, f2, f3, by rw [← riW_t h k f1]; exact f4⟩
  obtain ⟨a, b, c, d, e⟩ := f1 i hi
  exact ⟨a, b, c, d, by rw [← h _ (by omega)]; exact e⟩
theorem riK_t {T V : Nat → Int} {k : Nat} (h : ∀ c : Nat, c < 144 → T c = V c) (hk : riK T k) : riK V k := by
  obtain ⟨a, ⟨s, b⟩, c⟩ := hk
  exact ⟨a, ⟨s, riN_t h b⟩, fun k' s' x y z => c k' s' x y (riN_t (fun c hc => (h c hc).symm) z)⟩
theorem riA_c {T V : Nat → Int} (h : ∀ c : Nat, c < 144 → T c = V c) : riA T = riA V := by
  have e : riZ T = riZ V := funext (fun b => propext ⟨riZ_t h, riZ_t (fun c hc => (h c hc).symm)⟩)
  unfold riA
  rw [e]
theorem TD_c {T V : Nat → Int} (h : ∀ c : Nat, c < 144 → V c = T c) (hT : TD T) : TD V := ⟨fun c hc => by rw [h c hc]; exact hT.1 c hc, fun t ht => by rw [h _ (by omega)]; exact hT.2 t ht⟩
theorem BOd.tdd {P : Int → Int} {n can : Int} {d b : Nat → Int} (h : BOd 1 P n d b can) : TD d := TD_c (h rfl).1 (h rfl).2.2
theorem BOd.rik {P : Int → Int} {n can : Int} {d b : Nat → Int} (h : BOd 1 P n d b can) (hc : can ≠ 1) : ∃ k : Nat, riK d k := by
  obtain ⟨h1, h2, h3⟩ := h rfl
  rcases h2 with ⟨g1, _⟩ | ⟨_, g2⟩
  · exact absurd g1 hc
  · obtain ⟨k, hk⟩ := riK.ex h3 g2
    exact ⟨k, riK_t (fun c hc => (h1 c hc).symm) hk⟩
theorem riG_iff {T F : Nat → Int} (hT : TB T) {S x : Nat} (hS : S < 4096) (hx : riLow S x) (hF : ∀ p : Nat, p < 12 → riS T S p (F p)) : riG T S ↔ ∃ p : Nat, p < 12 ∧ p ≠ x ∧ F p < 1000000 ∧ T (12 * p + x) < 1000000 ∧ F p + T (12 * p + x) < 0 := by
  constructor
  · rintro ⟨m, f, h1, hp, h3, h4⟩
    have h0 := hx.u hp.1
    have hb := ri_b hT m (hp.o hS)
    have hm := (hp.m hS).2
    have hm12 := bitl hS (hp.in (Nat.le_refl m))
    have h5 := (hF (f m) hm12).2.1 m f hp
    rw [← h0] at h3 h4
    exact ⟨f m, hm12, fun e => hp.2.2.1 0 m (by omega) (Nat.le_refl m) (h0.symm.trans e.symm), by omega, h3, by omega⟩
  · rintro ⟨p, p1, p2, p3, p4, p5⟩
    obtain ⟨m, f, hp, hw⟩ := (hF p p1).1 p3
    have h0 := hx.u hp.1
    have hm : 1 ≤ m := by
      rcases (show m = 0 ∨ 1 ≤ m by omega) with e | e
      · subst e; exact absurd (hp.2.1.symm.trans h0.symm) p2
      · exact e
    have e := hp.2.1
    refine ⟨m, f, hm, ?_, ?_, ?_⟩
    · rw [e]; exact hp
    · rw [e, ← h0]; exact p4
    · rw [e, ← h0, hw]; exact p5
theorem riB_i {s : Int} (hs : 0 ≤ s ∧ s ≤ 4095) {x : Int} (hx : 0 ≤ x ∧ x ≤ 11) : ((riB s.toNat (x + 1).toNat : Nat) : Int) = ((riB s.toNat x.toNat : Nat) : Int) + hasZ s x := by
  have h1 := tb_Z (s := s) (k := x) hs (by omega)
  have h2 := hasZ_01 (s := s) (k := x) hs (by omega)
  rw [show (x + 1).toNat = x.toNat + 1 by omega]
  show ((riB s.toNat x.toNat + (if s.toNat.testBit x.toNat = true then 1 else 0) : Nat) : Int) = _
  by_cases hb : s.toNat.testBit x.toNat = true
  · rw [if_pos hb, h1.mpr hb]; rfl
  · rw [if_neg hb]
    have h3 : ¬ hasZ s x = 1 := fun h => hb (h1.mp h)
    omega
theorem riB_cn {s : Int} (hs : 0 ≤ s ∧ s ≤ 4095) : ((riB s.toNat 12 : Nat) : Int) = cnZ s := by
  rw [cnZ_h hs]
  have q := fun (x : Int) (hx : 0 ≤ x ∧ x ≤ 11) => riB_i hs hx
  have h0 := q 0 (by omega); have h1 := q 1 (by omega); have h2 := q 2 (by omega); have h3 := q 3 (by omega)
  have h4 := q 4 (by omega); have h5 := q 5 (by omega); have h6 := q 6 (by omega); have h7 := q 7 (by omega)
  have h8 := q 8 (by omega); have h9 := q 9 (by omega); have ha := q 10 (by omega); have hb := q 11 (by omega)
  have hz : ((riB s.toNat (0 : Int).toNat : Nat) : Int) = 0 := rfl
  rw [show ((11 : Int) + 1).toNat = 12 from rfl, show (11 : Int).toNat = ((10 : Int) + 1).toNat from rfl, ha, show (10 : Int).toNat = ((9 : Int) + 1).toNat from rfl, h9, show (9 : Int).toNat = ((8 : Int) + 1).toNat from rfl, h8, show (8 : Int).toNat = ((7 : Int) + 1).toNat from rfl, h7, show (7 : Int).toNat = ((6 : Int) + 1).toNat from rfl, h6, show (6 : Int).toNat = ((5 : Int) + 1).toNat from rfl, h5, show (5 : Int).toNat = ((4 : Int) + 1).toNat from rfl, h4, show (4 : Int).toNat = ((3 : Int) + 1).toNat from rfl, h3, show (3 : Int).toNat = ((2 : Int) + 1).toNat from rfl, h2, show (2 : Int).toNat = ((1 : Int) + 1).toNat from rfl, h1, show (1 : Int).toNat = ((0 : Int) + 1).toNat from rfl, h0, hz] at hb
  rw [hb]
  omega
theorem riB_bc {s : Int} (hs : 0 ≤ s ∧ s ≤ 4095) : bcF s 16 = ((riB s.toNat 12 : Nat) : Int) := (bc_cn hs).trans (riB_cn hs).symm
