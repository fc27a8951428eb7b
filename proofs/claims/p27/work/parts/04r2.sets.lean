-- sets as ints
theorem shl1_N : ∀ n : Nat, n < 12 → z_ishl 1 (n : Int) = ((2 ^ n : Nat) : Int) := by decide +kernel
theorem hasZ_up {s k v : Int} (hs : 0 ≤ s ∧ s ≤ 4095) (hk : 0 ≤ k ∧ k ≤ 11) (hv : 0 ≤ v ∧ v ≤ 11) : hasZ (z_ior s (z_ishl 1 k)) v = 1 ↔ hasZ s v = 1 ∨ v = k := by
  obtain ⟨n, rfl⟩ : ∃ n : Nat, s = (n : Int) := ⟨s.toNat, by omega⟩
  obtain ⟨m, rfl⟩ : ∃ m : Nat, k = (m : Int) := ⟨k.toNat, by omega⟩
  obtain ⟨j, rfl⟩ : ∃ j : Nat, v = (j : Int) := ⟨v.toNat, by omega⟩
  have hp : 2 ^ m < 4096 := Nat.lt_of_lt_of_le (Nat.pow_lt_pow_right (by decide) (show m < 12 by omega)) (by decide)
  rw [shl1_N m (by omega)]
  obtain ⟨e, hlt⟩ := z_or_n (n := n) (m := 2 ^ m) (by omega) hp
  rw [e, hasZ_bit (by omega) (by omega), hasZ_bit (by omega) (by omega), Nat.testBit_or, Nat.testBit_two_pow, Bool.or_eq_true, decide_eq_true_iff]
  constructor
  · rintro (h | h)
    · exact Or.inl h
    · exact Or.inr (by omega)
  · rintro (h | h)
    · exact Or.inl h
    · exact Or.inr (by omega)
theorem hasZ_01 {s k : Int} (hs : 0 ≤ s ∧ s ≤ 4095) (hk : 0 ≤ k ∧ k ≤ 30) : hasZ s k = 0 ∨ hasZ s k = 1 := by
  obtain ⟨n, rfl⟩ : ∃ n : Nat, s = (n : Int) := ⟨s.toNat, by omega⟩
  obtain ⟨m, rfl⟩ : ∃ m : Nat, k = (m : Int) := ⟨k.toNat, by omega⟩
  rw [hasZ_n (by omega) (by omega)]
  omega
theorem hasZ_d {s : Int} (hs : 0 ≤ s ∧ s ≤ 4095) (k : Nat) (hk : k < 31) : hasZ s (k : Int) = s / ((2 ^ k : Nat) : Int) % 2 := by
  obtain ⟨n, rfl⟩ : ∃ n : Nat, s = (n : Int) := ⟨s.toNat, by omega⟩
  rw [hasZ_n (by omega) hk]
  norm_cast
theorem cnZ_h {s : Int} (hs : 0 ≤ s ∧ s ≤ 4095) : cnZ s = hasZ s 0 + hasZ s 1 + hasZ s 2 + hasZ s 3 + hasZ s 4 + hasZ s 5 + hasZ s 6 + hasZ s 7 + hasZ s 8 + hasZ s 9 + hasZ s 10 + hasZ s 11 := by
  have h0 : hasZ s 0 = s % 2 := (hasZ_d hs 0 (by decide)).trans (by norm_cast; omega)
  have h1 : hasZ s 1 = s / 2 % 2 := hasZ_d hs 1 (by decide)
  have h2 : hasZ s 2 = s / 4 % 2 := hasZ_d hs 2 (by decide)
  have h3 : hasZ s 3 = s / 8 % 2 := hasZ_d hs 3 (by decide)
  have h4 : hasZ s 4 = s / 16 % 2 := hasZ_d hs 4 (by decide)
  have h5 : hasZ s 5 = s / 32 % 2 := hasZ_d hs 5 (by decide)
  have h6 : hasZ s 6 = s / 64 % 2 := hasZ_d hs 6 (by decide)
  have h7 : hasZ s 7 = s / 128 % 2 := hasZ_d hs 7 (by decide)
  have h8 : hasZ s 8 = s / 256 % 2 := hasZ_d hs 8 (by decide)
  have h9 : hasZ s 9 = s / 512 % 2 := hasZ_d hs 9 (by decide)
  have h10 : hasZ s 10 = s / 1024 % 2 := hasZ_d hs 10 (by decide)
  have h11 : hasZ s 11 = s / 2048 % 2 := hasZ_d hs 11 (by decide)
  unfold cnZ
  rw [h0, h1, h2, h3, h4, h5, h6, h7, h8, h9, h10, h11]
theorem cnZ_or {s k : Int} (hs : 0 ≤ s ∧ s ≤ 4095) (hk : 0 ≤ k ∧ k ≤ 11) : (hasZ s k = 1 ∧ cnZ (z_ior s (z_ishl 1 k)) = cnZ s) ∨ (hasZ s k ≠ 1 ∧ cnZ (z_ior s (z_ishl 1 k)) = cnZ s + 1) := by
  have ht := z_ior_4095 s (z_ishl 1 k) hs ⟨(z_shl1_11 k hk).1, (z_shl1_11 k hk).2.1⟩
  have key : ∀ v : Int, 0 ≤ v ∧ v ≤ 11 → (v = k ∧ hasZ (z_ior s (z_ishl 1 k)) v = 1) ∨ (v ≠ k ∧ hasZ (z_ior s (z_ishl 1 k)) v = hasZ s v) := fun v hv => by
    have h1 := hasZ_up hs hk hv
    have h2 := hasZ_01 ht (show 0 ≤ v ∧ v ≤ 30 by omega)
    have h3 := hasZ_01 hs (show 0 ≤ v ∧ v ≤ 30 by omega)
    by_cases e : v = k
    · exact Or.inl ⟨e, h1.mpr (Or.inr e)⟩
    · refine Or.inr ⟨e, ?_⟩
      by_cases e2 : hasZ s v = 1
      · rw [h1.mpr (Or.inl e2), e2]
      · have e3 : hasZ (z_ior s (z_ishl 1 k)) v ≠ 1 := fun q => by
          rcases h1.mp q with q1 | q1
          · exact e2 q1
          · exact e q1
        omega
  have h0 := key 0 (by omega); have h1 := key 1 (by omega); have h2 := key 2 (by omega); have h3 := key 3 (by omega); have h4 := key 4 (by omega); have h5 := key 5 (by omega)
  have h6 := key 6 (by omega); have h7 := key 7 (by omega); have h8 := key 8 (by omega); have h9 := key 9 (by omega); have h10 := key 10 (by omega); have h11 := key 11 (by omega)
  have hk2 := hasZ_01 hs (show 0 ≤ k ∧ k ≤ 30 by omega)
  rw [cnZ_h hs, cnZ_h ht]
  generalize z_ior s (z_ishl 1 k) = t at *
  clear key
  rcases (show k = 0 ∨ k = 1 ∨ k = 2 ∨ k = 3 ∨ k = 4 ∨ k = 5 ∨ k = 6 ∨ k = 7 ∨ k = 8 ∨ k = 9 ∨ k = 10 ∨ k = 11 by omega) with rfl | rfl | rfl | rfl | rfl | rfl | rfl | rfl | rfl | rfl | rfl | rfl <;> omega
/-- as many names as ones that begin a group -/
theorem gc_e {g : Nat → Int} (hg : ∀ c : Nat, c < 12 → 0 ≤ g c ∧ g c ≤ 11) : ∀ n : Nat, n ≤ 12 → (0 ≤ gcS g n ∧ gcS g n ≤ 4095) ∧ cnZ (gcS g n) = fcN g n ∧ ∀ v : Int, 0 ≤ v ∧ v ≤ 11 → (hasZ (gcS g n) v = 1 ↔ ∃ c : Nat, c < n ∧ g c = v) := by
  intro n
  induction n with
  | zero =>
    intro _
    refine ⟨⟨Int.le_refl 0, show (0 : Int) ≤ 4095 by decide⟩, rfl, fun v hv => ⟨fun h => ?_, fun ⟨c, hc, _⟩ => absurd hc (Nat.not_lt_zero c)⟩⟩
    have h1 : hasZ 0 v = 1 := h
    have h2 : ∀ m : Nat, m < 12 → hasZ 0 (m : Int) = 0 := by decide +kernel
    have h3 := h2 v.toNat (by omega)
    rw [show ((v.toNat : Nat) : Int) = v by omega] at h3
    omega
  | succ n ih =>
    intro hn
    obtain ⟨i1, i2, i3⟩ := ih (by omega)
    have hgn := hg n (by omega)
    have e : gcS g (n + 1) = z_ior (gcS g n) (z_ishl 1 (g n)) := rfl
    have hc := cnZ_or i1 hgn
    have hF := fcN_s g (x := (n : Int)) (by omega)
    rw [show ((n : Int) + 1).toNat = n + 1 by omega, show (n : Int).toNat = n by omega] at hF
    rw [e]
    refine ⟨z_ior_4095 _ _ i1 ⟨(z_shl1_11 _ hgn).1, (z_shl1_11 _ hgn).2.1⟩, ?_, fun v hv => ?_⟩
    · have h4 := i3 (g n) hgn
      rcases hF with ⟨h1, h2⟩ | ⟨h1, h2⟩
      · rcases hc with ⟨h5, h6⟩ | ⟨h5, h6⟩
        · obtain ⟨c, q1, q2⟩ := h4.mp h5
          exact absurd q2 (h1 c q1)
        · omega
      · rcases hc with ⟨h5, h6⟩ | ⟨h5, h6⟩
        · omega
        · exact absurd (h4.mpr h1) h5
    · rw [hasZ_up i1 hgn hv, i3 v hv]
      constructor
      · rintro (⟨c, q1, q2⟩ | q)
        · exact ⟨c, by omega, q2⟩
        · exact ⟨n, by omega, q.symm⟩
      · rintro ⟨c, q1, q2⟩
        rcases (show c < n ∨ c = n by omega) with q3 | q3
        · exact Or.inl ⟨c, q3, q2⟩
        · exact Or.inr (by rw [← q2, q3])
/-- the bits of a group -/
theorem grB_h {g : Nat → Int} {a : Nat} : ∀ n : Nat, n ≤ 12 → (0 ≤ grB g a n ∧ grB g a n ≤ 4095) ∧ ∀ v : Int, 0 ≤ v ∧ v ≤ 11 → (hasZ (grB g a n) v = 1 ↔ v < (n : Int) ∧ g v.toNat = g a) := by
  intro n
  induction n with
  | zero =>
    intro _
    refine ⟨⟨Int.le_refl 0, show (0 : Int) ≤ 4095 by decide⟩, fun v hv => ⟨fun h => ?_, fun h => by omega⟩⟩
    have h1 : hasZ 0 v = 1 := h
    have h2 : ∀ m : Nat, m < 12 → hasZ 0 (m : Int) = 0 := by decide +kernel
    have h3 := h2 v.toNat (by omega)
    rw [show ((v.toNat : Nat) : Int) = v by omega] at h3
    omega
  | succ n ih =>
    intro hn
    obtain ⟨i1, i2⟩ := ih (by omega)
    have hS := grB_s g a (x := (n : Int)) (by omega)
    rw [show ((n : Int) + 1).toNat = n + 1 by omega, show (n : Int).toNat = n by omega] at hS
    rcases hS with ⟨h1, h2⟩ | ⟨h1, h2⟩
    · rw [h2]
      refine ⟨z_ior_4095 _ _ i1 ⟨(z_shl1_11 _ (by omega)).1, (z_shl1_11 _ (by omega)).2.1⟩, fun v hv => ?_⟩
      rw [hasZ_up i1 (by omega) hv, i2 v hv]
      constructor
      · rintro (⟨q1, q2⟩ | q)
        · exact ⟨by omega, q2⟩
        · exact ⟨by omega, by rw [q, show (n : Int).toNat = n by omega]; exact h1⟩
      · rintro ⟨q1, q2⟩
        rcases (show v < (n : Int) ∨ v = (n : Int) by omega) with q3 | q3
        · exact Or.inl ⟨q3, q2⟩
        · exact Or.inr q3
    · rw [h2]
      refine ⟨i1, fun v hv => ?_⟩
      rw [i2 v hv]
      constructor
      · rintro ⟨q1, q2⟩
        exact ⟨by omega, q2⟩
      · rintro ⟨q1, q2⟩
        refine ⟨?_, q2⟩
        rcases (show v < (n : Int) ∨ v = (n : Int) by omega) with q3 | q3
        · exact q3
        · rw [q3, show (n : Int).toNat = n by omega] at q2
          exact absurd q2 h1
theorem low_gr {f : Nat → Int} {x t w : Int} (hx : 0 ≤ x ∧ x ≤ 11) (ht : t = grB f x.toNat 12) (hw : 0 ≤ w ∧ w ≤ 11) (h1 : hasZ t w = 1) (h2 : ∀ k : Int, 0 ≤ k → k < w → hasZ t k ≠ 1) : (w = x ∧ fcN f (x + 1).toNat = fcN f x.toNat + 1) ∨ (w ≠ x ∧ fcN f (x + 1).toNat = fcN f x.toNat) := by
  subst ht
  obtain ⟨_, hb⟩ := grB_h (g := f) (a := x.toNat) 12 (Nat.le_refl 12)
  have h3 := (hb w hw).mp h1
  have h4 : hasZ (grB f x.toNat 12) x = 1 := (hb x hx).mpr ⟨by omega, rfl⟩
  have h5 : w ≤ x := by
    rcases (show w ≤ x ∨ x < w by omega) with h | h
    · exact h
    · exact absurd h4 (h2 x hx.1 h)
  rcases fcN_s f hx.1 with ⟨g1, g2⟩ | ⟨⟨b, g1, g3⟩, g2⟩
  · refine Or.inl ⟨?_, g2⟩
    rcases (show w = x ∨ w < x by omega) with h | h
    · exact h
    · exact absurd h3.2 (g1 w.toNat (by omega))
  · refine Or.inr ⟨?_, g2⟩
    intro e
    have h6 := (hb (b : Int) (by omega)).mpr ⟨by omega, by rw [show (b : Int).toNat = b by omega]; exact g3⟩
    exact h2 (b : Int) (by omega) (by omega) h6
theorem mtB_h {f : Nat → Int} {a : Nat} (ha : a < 12) : ∀ n : Nat, n ≤ 12 → (0 ≤ mtB f a n ∧ mtB f a n ≤ 4095) ∧ ∀ v : Int, 0 ≤ v ∧ v ≤ 11 → (hasZ (mtB f a n) v = 1 ↔ v < (n : Int) ∧ f (12 * a + v.toNat) < 0) := by
  intro n
  induction n with
  | zero =>
    intro _
    refine ⟨⟨Int.le_refl 0, show (0 : Int) ≤ 4095 by decide⟩, fun v hv => ⟨fun h => ?_, fun h => by omega⟩⟩
    have h1 : hasZ 0 v = 1 := h
    have h2 : ∀ m : Nat, m < 12 → hasZ 0 (m : Int) = 0 := by decide +kernel
    have h3 := h2 v.toNat (by omega)
    rw [show ((v.toNat : Nat) : Int) = v by omega] at h3
    omega
  | succ n ih =>
    intro hn
    obtain ⟨i1, i2⟩ := ih (by omega)
    have hS := mtB_s f a (x := (n : Int)) (by omega)
    rw [show ((n : Int) + 1).toNat = n + 1 by omega, show (n : Int).toNat = n by omega] at hS
    rcases hS with ⟨h1, h2⟩ | ⟨h1, h2⟩
    · rw [h2]
      refine ⟨z_ior_4095 _ _ i1 ⟨(z_shl1_11 _ (by omega)).1, (z_shl1_11 _ (by omega)).2.1⟩, fun v hv => ?_⟩
      rw [hasZ_up i1 (by omega) hv, i2 v hv]
      constructor
      · rintro (⟨q1, q2⟩ | q)
        · exact ⟨by omega, q2⟩
        · exact ⟨by omega, by rw [q, show (n : Int).toNat = n by omega]; exact h1⟩
      · rintro ⟨q1, q2⟩
        rcases (show v < (n : Int) ∨ v = (n : Int) by omega) with q3 | q3
        · exact Or.inl ⟨q3, q2⟩
        · exact Or.inr q3
    · rw [h2]
      refine ⟨i1, fun v hv => ?_⟩
      rw [i2 v hv]
      constructor
      · rintro ⟨q1, q2⟩
        exact ⟨by omega, q2⟩
      · rintro ⟨q1, q2⟩
        refine ⟨?_, q2⟩
        rcases (show v < (n : Int) ∨ v = (n : Int) by omega) with q3 | q3
        · exact q3
        · rw [q3, show (n : Int).toNat = n by omega] at q2
          exact absurd q2 h1
